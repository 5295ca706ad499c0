-- WAYS: both sides count the same steps
theorem pcn_mono {a b : Nat} (h : ∀ i, a.testBit i = true → b.testBit i = true) : ∀ n, pcn a n ≤ pcn b n
  | 0 => Nat.le_refl _
  | n + 1 => by
    have := pcn_mono h n
    have q := h n
    unfold pcn
    cases t : a.testBit n
    · simp
      omega
    · rw [q t]
      simp
      omega
theorem pcn_strict {a b j : Nat} (h : ∀ i, a.testBit i = true → b.testBit i = true) (h1 : b.testBit j = true) (h2 : a.testBit j = false) : ∀ n, j < n → pcn a n < pcn b n
  | 0, q => absurd q (Nat.not_lt_zero _)
  | n + 1, q => by
    unfold pcn
    by_cases e : j = n
    · have := pcn_mono h n
      rw [← e, h1, h2]
      simp
      rw [← e] at this
      omega
    · have := pcn_strict h h1 h2 n (by omega)
      have q := h n
      cases t : a.testBit n
      · simp
        omega
      · rw [q t]
        simp
        omega
theorem rr_st {m c d : Nat} (h : rr m c (d + 1) = rr m c d) : rr m c (d + 2) = rr m c (d + 1) := by
  show rr m c (d + 1) ||| rg m (rr m c (d + 1)) = rr m c (d + 1)
  rw [h]
  exact h
theorem rr_cnt {m c : Nat} (hm : m < 2 ^ 18) (hc : c < 18) : ∀ d, rr m c (d + 1) = rr m c d ∨ d + 2 ≤ pcn (rr m c (d + 1)) 18 := by
  have key : ∀ d n, d + 1 ≤ n → pcn (rr m c d) 18 ≥ n → rr m c (d + 1) = rr m c d ∨ n + 1 ≤ pcn (rr m c (d + 1)) 18 := by
    intro d n _ hn
    by_cases e : rr m c (d + 1) = rr m c d
    · exact .inl e
    · right
      have up : ∀ i, (rr m c d).testBit i = true → (rr m c (d + 1)).testBit i = true := fun i t => rr_up (by omega) t
      have : ∃ j, j < 18 ∧ (rr m c (d + 1)).testBit j = true ∧ (rr m c d).testBit j = false := by
        apply Classical.byContradiction
        intro q
        apply e
        apply Nat.eq_of_testBit_eq
        intro i
        by_cases hi : i < 18
        · cases t : (rr m c d).testBit i
          · cases u : (rr m c (d + 1)).testBit i
            · rfl
            · exact absurd ⟨i, hi, u, t⟩ q
          · exact up i t
        · rw [tb_out (rr_lt hm hc _) (by omega), tb_out (rr_lt hm hc _) (by omega)]
      obtain ⟨j, j1, j2, j3⟩ := this
      have := pcn_strict up j2 j3 18 j1
      omega
  intro d
  induction d with
  | zero =>
    refine key 0 1 (Nat.le_refl _) ?_
    have t : (rr m c 0).testBit c = true := by
      show (2 ^ c).testBit c = true
      rw [tb_pow]
      exact decide_eq_true rfl
    have := pcn_strict (a := 0) (b := rr m c 0) (j := c) (fun i h => by rw [Nat.zero_testBit] at h; cases h) t (Nat.zero_testBit _) 18 hc
    omega
  | succ d ih =>
    rcases ih with h | h
    · exact .inl (rr_st h)
    · exact key (d + 1) (d + 2) (by omega) h
theorem rr_17 {m c : Nat} (hm : m < 2 ^ 18) (hc : c < 18) : rr m c 18 = rr m c 17 := by
  rcases rr_cnt hm hc 17 with h | h
  · exact h
  · have := pcn_le (rr m c 18) 18
    have h : 19 ≤ pcn (rr m c 18) 18 := h
    omega
theorem fdd_17 {m c n : Nat} (hm : m < 2 ^ 18) (hc : c < 18) : fdd m c 18 n = fdd m c 17 n := by
  show (if fdd m c 17 n = -9 ∧ (rr m c 18).testBit n = true then nI 18 else fdd m c 17 n) = fdd m c 17 n
  rw [rr_17 hm hc]
  rcases fdd_sp (m := m) (c := c) (n := n) 17 (by omega) with ⟨h1, h2⟩ | ⟨e, h1, h2, h3, h4⟩
  · rw [h2, if_neg (fun q => Bool.noConfusion q.2)]
  · rw [if_neg (fun q => nI_m9 (show e < 2 ^ 31 by omega) (h2 ▸ q.1))]
theorem s67 {m c : Nat} (hm : m < 2 ^ 18) (hc : c < 18) : f67 (nI c) (nI m) = some (nI (rr m c 17)) := by
  unfold f67
  rw [s24 hc, Option.bind_some]
  refine lp_bind (fun k => (nI (rr m c k), nI (k + 1))) 17 (e := nI (rr m c 17)) rfl (fun k hk => ?_) ?_ (by omega) rfl
  · show b67_7 (nI m) (nI (rr m c k)) (nI (k + 1)) = some (.inl (nI (rr m c k ||| rg m (rr m c k)), nI (k + 1 + 1)))
    unfold b67_7
    rw [show (18 : Int32) = nI 18 from rfl, if_neg (nle_nI (by omega) (by omega)), s68 (rr_lt hm hc k), Option.bind_some, nI_or, nI_1]
  · show b67_7 (nI m) (nI (rr m c 17)) (nI 18) = _
    unfold b67_7
    rw [show (18 : Int32) = nI 18 from rfl, if_pos (le_nI (Nat.le_refl _) (by omega))]
theorem s67n {m : Nat} : f67 (-9) (nI m) = some 0 := by
  unfold f67
  rw [s24n, Option.bind_some]
  refine lp_bind (fun k => (nI 0, nI (k + 1))) 17 (e := nI 0) rfl (fun k hk => ?_) ?_ (by omega) rfl
  · show b67_7 (nI m) (nI 0) (nI (k + 1)) = some (.inl (nI 0, nI (k + 1 + 1)))
    unfold b67_7
    rw [show (18 : Int32) = nI 18 from rfl, if_neg (nle_nI (by omega) (by omega)), s68 (by omega), Option.bind_some, nI_or, nI_1]
    have : rg m 0 = 0 := by
      unfold rg cm
      simp
    rw [this]
    rfl
  · show b67_7 (nI m) (nI 0) (nI 18) = _
    unfold b67_7
    rw [show (18 : Int32) = nI 18 from rfl, if_pos (le_nI (Nat.le_refl _) (by omega))]
theorem s94 {m c n : Nat} (hm : m < 2 ^ 18) (hc : c < 18) (hn : n < 18) : f94 (nI c) (nI n) (nI m) = some (fdd m c 17 n) := by
  unfold f94
  rw [s24 hc, Option.bind_some]
  have go : ∀ k, k < 18 → (rr m c k).testBit n = false → b94_8 (nI n) (nI m) (nI (rr m c k)) (nI k) = some (.inl (nI (rr m c (k + 1)), nI (k + 1))) := by
    intro k hk t
    have b := rr_lt hm hc k
    unfold b94_8
    rw [show (18 : Int32) = nI 18 from rfl, if_neg (nle_nI hk (by omega)), s23 (by omega) (by omega), Option.bind_some, t, if_c0, s68 b, Option.bind_some, nI_or, nI_1]
    rfl
  rcases fdd_sp (m := m) (c := c) (n := n) 17 (by omega) with ⟨h1, h2⟩ | ⟨e, h1, h2, h3, h4⟩
  · refine lp_bind (fun k => (nI (rr m c k), nI k)) 18 (e := .inl ()) rfl (fun k hk => ?_) ?_ (by omega) ?_
    · refine go k hk ?_
      cases t : (rr m c k).testBit n
      · rfl
      · rw [rr_up (show k ≤ 17 by omega) t] at h2
        cases h2
    · show b94_8 (nI n) (nI m) (nI (rr m c 18)) (nI 18) = _
      unfold b94_8
      rw [show (18 : Int32) = nI 18 from rfl, if_pos (le_nI (Nat.le_refl _) (by omega))]
    · rw [h1]
  · refine lp_bind (fun k => (nI (rr m c k), nI k)) e (e := .inr (nI e)) rfl (fun k hk => ?_) ?_ (by omega) ?_
    · exact go k (by omega) (h4 k hk)
    · have b := rr_lt hm hc e
      show b94_8 (nI n) (nI m) (nI (rr m c e)) (nI e) = _
      unfold b94_8
      rw [show (18 : Int32) = nI 18 from rfl, if_neg (nle_nI (by omega) (by omega)), s23 (by omega) (by omega), Option.bind_some, h3, if_c1]
    · rw [h2]
-- the reference's rounds
def wst (F : Nat → Int32) (m d : Nat) (W : Nat → Bool) (n : Nat) : Int32 := if F n = -9 ∧ m.testBit n = true ∧ W n = true then nI (d + 1) else F n
def wnx (c : Nat) (W : Nat → Bool) : Nat → Nat → Bool
  | 0, n => W n
  | w + 1, n => wnx c W w n || decide (nxc c w = nI n)
theorem wnx_4 (c : Nat) (W : Nat → Bool) (n : Nat) : wnx c W 4 n = (W n || adj c n) := by
  unfold wnx wnx wnx wnx wnx adj
  simp only [Bool.or_assoc]
def wcl (F : Nat → Int32) (d : Nat) : Nat → Nat → Bool
  | 0, _ => false
  | k + 1, n => wcl F d k n || (decide (F k = nI d) && adj k n)
theorem wcl_ex {F : Nat → Int32} {d n : Nat} : ∀ k, wcl F d k n = true ↔ ∃ c, c < k ∧ F c = nI d ∧ adj c n = true
  | 0 => by simp [wcl]
  | k + 1 => by
    unfold wcl
    rw [Bool.or_eq_true, wcl_ex k, Bool.and_eq_true, decide_eq_true_eq]
    constructor
    · rintro (⟨c, h1, h2⟩ | h)
      · exact ⟨c, by omega, h2⟩
      · exact ⟨k, by omega, h⟩
    · rintro ⟨c, h1, h2⟩
      by_cases e : c = k
      · rw [e] at h2; exact .inr h2
      · exact .inl ⟨c, by omega, h2⟩
theorem wst_end {m c d n : Nat} (hm : m < 2 ^ 18) (hc : c < 18) (hd : d < 18) (hn : n < 18) : wst (fdd m c d) m d (wcl (fdd m c d) d 18) n = fdd m c (d + 1) n := by
  unfold wst
  show _ = (if fdd m c d n = -9 ∧ (rr m c (d + 1)).testBit n = true then nI (d + 1) else fdd m c d n)
  have sp := fun x => fdd_sp (m := m) (c := c) (n := x) d (by omega)
  by_cases h9 : fdd m c d n = -9
  · have nn : (rr m c d).testBit n = false := by
      rcases sp n with ⟨h1, h2⟩ | ⟨e, h1, h2, h3, h4⟩
      · exact h2
      · rw [h9] at h2
        exact absurd h2.symm (nI_m9 (by omega))
    have eq : (m.testBit n = true ∧ wcl (fdd m c d) d 18 n = true) ↔ (rr m c (d + 1)).testBit n = true := by
      show _ ↔ (rr m c d ||| rg m (rr m c d)).testBit n = true
      rw [Nat.testBit_or, nn, Bool.false_or, tb_rg hm (rr_lt hm hc d) hn, wcl_ex]
      constructor
      · rintro ⟨h1, x, x1, x2, x3⟩
        refine ⟨h1, nn, x, x1, ?_, x3⟩
        rcases sp x with ⟨h1, h2⟩ | ⟨e, h1, h2, h3, h4⟩
        · rw [h1] at x2
          exact absurd x2.symm (nI_m9 (by omega))
        · exact rr_up h1 h3
      · rintro ⟨h1, h2, x, x1, x2, x3⟩
        refine ⟨h1, x, x1, ?_, x3⟩
        rcases sp x with ⟨g1, g2⟩ | ⟨e, g1, g2, g3, g4⟩
        · rw [g2] at x2; cases x2
        · by_cases ed : e = d
          · rw [g2, ed]
          · exfalso
            have : (rr m c (e + 1)).testBit n = true := by
              show (rr m c e ||| rg m (rr m c e)).testBit n = true
              rw [Nat.testBit_or]
              cases t : (rr m c e).testBit n
              · rw [Bool.false_or, tb_rg hm (rr_lt hm hc e) hn]
                exact ⟨h1, t, x, x1, g3, x3⟩
              · rfl
            rw [rr_up (show e + 1 ≤ d by omega) this] at nn
            cases nn
    by_cases q : (rr m c (d + 1)).testBit n = true
    · rw [if_pos ⟨h9, eq.mpr q⟩, if_pos ⟨h9, q⟩]
    · rw [if_neg (fun z => q (eq.mp z.2)), if_neg (fun z => q z.2)]
  · rw [if_neg (fun z => h9 z.1), if_neg (fun z => h9 z.1)]
