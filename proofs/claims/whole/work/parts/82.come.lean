-- COMING ON
theorem lp_inv2 {σ ε : Type} {body : σ → Option (σ ⊕ ε)} (I : Nat → σ → Prop) (Q : ε → Prop) (m : Nat) {N : Nat} (hs : ∀ k s, k < m → I k s → (∃ s', body s = some (.inl s') ∧ I (k + 1) s') ∨ ∃ e, body s = some (.inr e) ∧ Q e) (he : ∀ s, I m s → ∃ e, body s = some (.inr e) ∧ Q e) : ∀ (k : Nat) (s : σ), k ≤ m → I k s → m - k < N → ∃ e, ov_lp body N s = some e ∧ Q e := by
  induction N with
  | zero => intro k s _ _ h; exact absurd h (Nat.not_lt_zero _)
  | succ N ih =>
    intro k s hk hi hN
    by_cases e : k = m
    · rw [e] at hi
      obtain ⟨x, h1, h2⟩ := he s hi
      exact ⟨x, lp_stop h1, h2⟩
    · rcases hs k s (by omega) hi with ⟨s', h1, h2⟩ | ⟨x, h1, h2⟩
      · rw [lp_go h1]
        exact ih (k + 1) s' (by omega) h2 (by omega)
      · exact ⟨x, lp_stop h1, h2⟩
theorem fr_no {g : pg_g} {N F c : Nat} (hv : pg_V g N F) (h6 : N ≤ 6) (hc : c < 18) (h : (frm g N F).testBit c = true) : (∀ j, j < 6 → g j ≠ nI c) ∧ ∀ f, f < F → g (7 + f) ≠ nI c := by
  rw [tb_frm hc, Bool.not_eq_true', Nat.testBit_or, Bool.or_eq_false_iff] at h
  obtain ⟨h1, h2⟩ := h
  constructor
  · intro j hj e
    have e9 : g j ≠ -9 := by rw [e]; exact nI_m9 (by omega)
    have jN : j < N := Classical.byContradiction fun q => e9 (hv.2.1 j (by omega) hj)
    rw [tb_pms, List.any_eq_false] at h2
    have := h2 j (List.mem_range.mpr jN)
    rw [ps_e hc e, tb_63 j hj] at this
    simp [e9] at this
  · intro f hf e
    unfold stm at h1
    rw [tb_mkl, List.any_eq_false] at h1
    have := h1 f (List.mem_range.mpr hf)
    rw [sl_e hc e] at this
    simp at this
theorem V_on {g : pg_g} {N F c k : Nat} (hv : pg_V g N F) (h6 : N ≤ 6) (hk : k < N) (hc : c < 18) (h : (frm g N F).testBit c = true) : pg_V (pu g k (nI c)) N F := by
  obtain ⟨f1, f2⟩ := fr_no hv h6 hc h
  obtain ⟨v1, v2, v3, v4, v5, v6⟩ := hv
  refine ⟨fun j hj => ?_, fun j h1 h2 => ?_, fun f hf => ?_, ?_, fun i j hi hj ne e => ?_, fun i f hi hf e => ?_⟩
  · by_cases q : j = k
    · rw [q, pu_eq]
      exact .inr ⟨c, hc, rfl⟩
    · rw [pu_ne q]
      exact v1 j hj
  · rw [pu_ne (by omega)]
    exact v2 j h1 h2
  · rw [pu_ne (by omega)]
    exact v3 f hf
  · rw [pu_ne (by omega)]
    exact v4
  · by_cases q : i = k
    · rw [q, pu_eq, pu_ne (by omega)] at e
      exact absurd e.symm (f1 j hj)
    · rw [pu_ne q] at e ⊢
      by_cases q2 : j = k
      · rw [q2, pu_eq] at e
        exact absurd e (f1 i hi)
      · rw [pu_ne q2] at e
        exact v5 i j hi hj ne e
  · rw [pu_ne (show 7 + f ≠ k by omega)] at e
    by_cases q : i = k
    · rw [q, pu_eq] at e
      exact f2 f hf e.symm
    · rw [pu_ne q] at e
      exact v6 i f hi hf e
theorem V_off {g : pg_g} {N F k : Nat} (hv : pg_V g N F) (hk : k < 6) : pg_V (pu g k (-9)) N F := by
  obtain ⟨v1, v2, v3, v4, v5, v6⟩ := hv
  refine ⟨fun j hj => ?_, fun j h1 h2 => ?_, fun f hf => ?_, ?_, fun i j hi hj ne e => ?_, fun i f hi hf e => ?_⟩
  · by_cases q : j = k
    · rw [q, pu_eq]
      exact .inl rfl
    · rw [pu_ne q]
      exact v1 j hj
  · by_cases q : j = k
    · rw [q, pu_eq]
    · rw [pu_ne q]
      exact v2 j h1 h2
  · rw [pu_ne (by omega)]
    exact v3 f hf
  · rw [pu_ne (by omega)]
    exact v4
  · by_cases q : i = k
    · rw [q, pu_eq]
    · rw [pu_ne q] at e ⊢
      by_cases q2 : j = k
      · rw [q2, pu_eq] at e
        exact e
      · rw [pu_ne q2] at e
        exact v5 i j hi hj ne e
  · rw [pu_ne (show 7 + f ≠ k by omega)] at e
    obtain ⟨c, hc, e'⟩ := v3 f hf
    by_cases q : i = k
    · rw [q, pu_eq, e'] at e
      exact nI_m9 (by omega) e.symm
    · rw [pu_ne q] at e
      exact v6 i f hi hf e
/-- where a part can walk -/
def pth (P : pl_T) (g : pg_g) (k : Nat) : Nat := if kd P k = 1 then 0 else frm g (pN P) (pF P)
theorem pth_lt (P : pl_T) (g : pg_g) (k : Nat) : pth P g k < 2 ^ 18 := by
  unfold pth
  split
  · decide
  · exact frm_lt _ _ _
section
variable {S : ov_S} {P : pl_T} {a : Nat} {g : pg_g} {p : Nat}
theorem s53f (h : pl_R S P) (hv : pg_V g (pN P) (pF P)) (he : pg_E S a g (pF P)) : f53 a S = some (nI (frm g (pN P) (pF P))) := by
  rw [s53 (r_F4 h) hv he, frm_e hv (r_N6 h)]
theorem s66 (h : pl_R S P) (hv : pg_V g (pN P) (pF P)) (he : pg_E S a g (pF P)) {k : Nat} (hk : k < pN P) : f66 a S (nI k) = some (nI (pth P g k)) := by
  have kq := r_kd h hk
  unfold f66 pth
  rw [s64 h hk, Option.bind_some]
  by_cases q : kd P k = 1
  · rw [if_pos (show nI (kd P k) = 1 by rw [q]; rfl), if_pos q]
    rfl
  · rw [if_neg (show ¬ nI (kd P k) = 1 from nI_ne (b := 1) q (by omega) (by omega)), if_neg q, s53f h hv he, Option.bind_some]
theorem s178 (h : pl_R S P) (hv : pg_V g (pN P) (pF P)) (hm : pg_M S p g) {k c : Nat} (hk : k < pN P) (hc : c < 18) (e : g k = nI c) : ∃ S', f178 p S (nI k) = some S' ∧ ag [63] S S' ∧ ∀ n, n < 18 → S' 63 n = fdd (pth P g k) c 17 n := by
  have kq := r_kd h hk
  have h6 := r_N6 h
  unfold f178
  rw [zadd, ov_ck_t (ib_nI (by rw [hm.1]; omega) (by rw [hm.1]; omega)), ov_ck_t (ib_nI (by omega) (by omega)), nI_clamp (by omega), r_mk h hk, hm.2 k (by omega), e]
  unfold pth
  by_cases q : kd P k = 1
  · rw [if_pos (show nI (kd P k) = 1 by rw [q]; rfl), if_pos q]
    obtain ⟨S', s1, s2, s3⟩ := s179 (S := S) (c := c) (t := 262143) (m := 0) hc (by decide) (by decide) (fun n hn => by rw [tb_all n hn]; simp)
    refine ⟨S', ?_, s2, s3⟩
    show (f179 S (nI c) (nI 262143)).bind _ = _
    rw [s1]
    rfl
  · rw [if_neg (show ¬ nI (kd P k) = 1 from nI_ne (b := 1) q (by omega) (by omega)), if_neg q, s170 h hm hv, Option.bind_some]
    obtain ⟨S', s1, s2, s3⟩ := s179 (S := S) (c := c) (t := stm g (pF P) ||| pms (pN P) 63 g) (m := frm g (pN P) (pF P)) hc (Nat.or_lt_two_pow (stm_lt hv) (pms_lt hv h6)) (frm_lt _ _ _) (fun n hn => tb_frm hn)
    refine ⟨S', ?_, s2, s3⟩
    unfold f178_26
    rw [s1]
    rfl
theorem s90 (h : pl_R S P) {k : Nat} {x : Int32} (hk : k < pN P) : f90 a S (nI k) x = some (ov_up S (a + 1) k x) := by
  have h6 := r_N6 h
  unfold f90
  rw [s29 h hk, Option.bind_some, if_neg (by decide), ov_ck_t (ib_nI (by omega) (by omega)), nI_clamp (by omega)]
end
theorem s102 {x c : Nat} (hx : x < 2 ^ 18) (hc : c < 18) (h1 : x.testBit c = true) (h2 : ∀ i, i < c → x.testBit i = false) : f102 (nI x) = some (nI c) := by
  unfold f102
  refine lp_bind (fun k => nI k) c (e := .inr (nI c)) rfl (fun k hk => ?_) ?_ (by omega) rfl
  · show b102_2 (nI x) (nI k) = some (.inl (nI (k + 1)))
    unfold b102_2
    rw [show (18 : Int32) = nI 18 from rfl, if_neg (nle_nI (by omega) (by omega)), s23 (by omega) (by omega), Option.bind_some, h2 k hk, if_c0, nI_1]
  · show b102_2 (nI x) (nI c) = _
    unfold b102_2
    rw [show (18 : Int32) = nI 18 from rfl, if_neg (nle_nI (by omega) (by omega)), s23 (by omega) (by omega), Option.bind_some, h1, if_c1]
-- layers
def lyr (m c : Nat) : Nat → Nat
  | 0 => 2 ^ c
  | d + 1 => rg m (rr m c d)
theorem lyr_lt {m c : Nat} (hm : m < 2 ^ 18) (hc : c < 18) : ∀ d, lyr m c d < 2 ^ 18
  | 0 => Nat.pow_lt_pow_right (by omega) hc
  | _ + 1 => rg_lt hm
theorem lyr_tb {m c n : Nat} (hm : m < 2 ^ 18) (hc : c < 18) (hn : n < 18) : ∀ d, (lyr m c d).testBit n = true ↔ (rr m c d).testBit n = true ∧ ∀ e, e < d → (rr m c e).testBit n = false
  | 0 => ⟨fun q => ⟨q, fun e h => absurd h (Nat.not_lt_zero _)⟩, fun q => q.1⟩
  | d + 1 => by
    show (rg m (rr m c d)).testBit n = true ↔ (rr m c d ||| rg m (rr m c d)).testBit n = true ∧ _
    rw [Nat.testBit_or, Bool.or_eq_true]
    constructor
    · intro q
      refine ⟨.inr q, fun e he => ?_⟩
      cases t : (rr m c e).testBit n
      · rfl
      · have := rr_up (show e ≤ d by omega) t
        rw [((tb_rg hm (rr_lt hm hc d) hn).mp q).2.1] at this
        cases this
    · rintro ⟨q | q, w⟩
      · rw [w d (by omega)] at q
        cases q
      · exact q
theorem lyr_fd {m c n d : Nat} (hm : m < 2 ^ 18) (hc : c < 18) (hn : n < 18) (hd : d < 18) : (lyr m c d).testBit n = true ↔ fdd m c 17 n = nI d := by
  rw [lyr_tb hm hc hn]
  rcases fdd_sp (m := m) (c := c) (n := n) 17 (by omega) with ⟨h1, h2⟩ | ⟨e, h1, h2, h3, h4⟩
  · rw [h1]
    constructor
    · rintro ⟨q, _⟩
      rw [rr_up (show d ≤ 17 by omega) q] at h2
      cases h2
    · intro q
      exact absurd q.symm (nI_m9 (by omega))
  · rw [h2, nI_eq (by omega) (by omega)]
    constructor
    · rintro ⟨q, w⟩
      rcases Nat.lt_trichotomy e d with z | z | z
      · rw [w e z] at h3
        cases h3
      · exact z
      · rw [h4 d z] at q
        cases q
    · intro q
      rw [← q]
      exact ⟨h3, h4⟩
theorem lyr_0 {m c : Nat} : ∀ k j, lyr m c (k + 1) = 0 → k + 1 ≤ j → lyr m c j = 0 := by
  have key : ∀ k, lyr m c (k + 1) = 0 → lyr m c (k + 2) = 0 := by
    intro k h
    show rg m (rr m c k ||| rg m (rr m c k)) = 0
    have h : rg m (rr m c k) = 0 := h
    rw [h, Nat.or_zero, h]
  intro k j h hj
  induction j with
  | zero => omega
  | succ j ih =>
    by_cases e : k = j
    · rw [← e]
      exact h
    · obtain ⟨i, rfl⟩ : ∃ i, j = i + 1 := ⟨j - 1, by omega⟩
      exact key i (ih (by omega))
