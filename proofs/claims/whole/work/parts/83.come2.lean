-- COMING ON, BOTH SIDES
def cbs (A : Nat → Bool) (D : Nat → Int32) (c : Nat) : Nat → Int32 × Int32
  | 0 => (nI c, -9)
  | n + 1 => if D n = -9 ∨ A n = false then cbs A D c n else if (cbs A D c n).2 = -9 then (nI n, D n) else if (cbs A D c n).2 ≤ D n then cbs A D c n else (nI n, D n)
theorem cbs_sp {A : Nat → Bool} {D : Nat → Int32} {c : Nat} (hD : ∀ n, n < 18 → D n = -9 ∨ ∃ e, e < 18 ∧ D n = nI e) : ∀ n, n ≤ 18 → (cbs A D c n = (nI c, -9) ∧ ∀ i, i < n → D i = -9 ∨ A i = false) ∨ ∃ i e, i < n ∧ e < 18 ∧ cbs A D c n = (nI i, nI e) ∧ A i = true ∧ D i = nI e ∧ ∀ j e', j < n → e' < 18 → A j = true → D j = nI e' → e ≤ e' ∧ (e' = e → i ≤ j)
  | 0, _ => .inl ⟨rfl, fun i h => absurd h (Nat.not_lt_zero _)⟩
  | n + 1, hn => by
    have ih := cbs_sp (A := A) (c := c) hD n (by omega)
    unfold cbs
    by_cases q : D n = -9 ∨ A n = false
    · rw [if_pos q]
      rcases ih with ⟨h1, h2⟩ | ⟨i, e, h1, h2, h3, h4, h5, h6⟩
      · refine .inl ⟨h1, fun i hi => ?_⟩
        by_cases e : i = n
        · rw [e]; exact q
        · exact h2 i (by omega)
      · refine .inr ⟨i, e, by omega, h2, h3, h4, h5, fun j e' hj he' a d => ?_⟩
        by_cases z : j = n
        · rw [z] at a d
          rcases q with q | q
          · rw [q] at d
            exact absurd d.symm (nI_m9 (by omega))
          · rw [a] at q
            cases q
        · exact h6 j e' (by omega) he' a d
    · rw [if_neg q]
      have An : A n = true := by
        cases t : A n
        · exact absurd (.inr t) q
        · rfl
      obtain ⟨en, e1, e2⟩ := (hD n (by omega)).resolve_left (fun z => q (.inl z))
      rcases ih with ⟨h1, h2⟩ | ⟨i, e, h1, h2, h3, h4, h5, h6⟩
      · rw [h1, if_pos rfl]
        refine .inr ⟨n, en, by omega, e1, by rw [e2], An, e2, fun j e' hj he' a d => ?_⟩
        by_cases z : j = n
        · rw [z, e2] at d
          have := nI_i (by omega) (by omega) d
          omega
        · rcases h2 j (by omega) with w | w
          · rw [w] at d
            exact absurd d.symm (nI_m9 (by omega))
          · rw [a] at w
            cases w
      · rw [h3, if_neg (nI_m9 (show e < 2 ^ 31 by omega)), e2]
        by_cases le : e ≤ en
        · rw [if_pos (le_nI le (by omega))]
          refine .inr ⟨i, e, by omega, h2, rfl, h4, h5, fun j e' hj he' a d => ?_⟩
          by_cases z : j = n
          · rw [z, e2] at d
            have := nI_i (by omega) (by omega) d
            omega
          · exact h6 j e' (by omega) he' a d
        · rw [if_neg (nle_nI (by omega) (by omega))]
          refine .inr ⟨n, en, by omega, e1, rfl, An, e2, fun j e' hj he' a d => ?_⟩
          by_cases z : j = n
          · rw [z, e2] at d
            have := nI_i (by omega) (by omega) d
            omega
          · have := h6 j e' (by omega) he' a d
            omega
theorem fd_D {m c : Nat} : ∀ n, n < 18 → fdd m c 17 n = -9 ∨ ∃ e, e < 18 ∧ fdd m c 17 n = nI e := fun n _ => by
  rcases fdd_sp (m := m) (c := c) (n := n) 17 (by omega) with ⟨h1, h2⟩ | ⟨e, h1, h2, h3, h4⟩
  · exact .inl h1
  · exact .inr ⟨e, by omega, h2⟩
/-- where one comes to by the door at c -/
def cmb (P : pl_T) (g : pg_g) (k c : Nat) : Int32 × Int32 := cbs (fun n => (shn P g).testBit n) (fdd (pth P g k) c 17) c 18
def cmd (P : pl_T) (g : pg_g) (k c : Nat) : Int32 := if (cmb P g k c).2 = -9 then 0 else (cmb P g k c).2
theorem rr_in {m c n : Nat} (hm : m < 2 ^ 18) (hc : c < 18) (hn : n < 18) : ∀ d, (rr m c d).testBit n = true → n = c ∨ m.testBit n = true
  | 0, h => by
    have h : (2 ^ c).testBit n = true := h
    rw [tb_pow, decide_eq_true_eq] at h
    exact .inl h.symm
  | d + 1, h => by
    have h : (rr m c d ||| rg m (rr m c d)).testBit n = true := h
    rw [Nat.testBit_or, Bool.or_eq_true] at h
    rcases h with h | h
    · exact rr_in hm hc hn d h
    · exact .inr ((tb_rg hm (rr_lt hm hc d) hn).mp h).1
theorem pth_fr {P : pl_T} {g : pg_g} {k n : Nat} (h : (pth P g k).testBit n = true) : (frm g (pN P) (pF P)).testBit n = true := by
  unfold pth at h
  split at h
  · rw [Nat.zero_testBit] at h
    cases h
  · exact h
theorem cmb_sp (P : pl_T) (g : pg_g) (k : Nat) {c : Nat} (hc : c < 18) (hf : (frm g (pN P) (pF P)).testBit c = true) : ∃ i, i < 18 ∧ (cmb P g k c).1 = nI i ∧ (frm g (pN P) (pF P)).testBit i = true ∧ ((cmb P g k c).2 = -9 ∨ ∃ e, e < 18 ∧ (cmb P g k c).2 = nI e) := by
  unfold cmb
  rcases cbs_sp (A := fun n => (shn P g).testBit n) (c := c) (fd_D (m := pth P g k) (c := c)) 18 (Nat.le_refl _) with ⟨h1, h2⟩ | ⟨i, e, h1, h2, h3, h4, h5, h6⟩
  · rw [h1]
    exact ⟨c, hc, rfl, hf, .inl rfl⟩
  · rw [h3]
    refine ⟨i, h1, rfl, ?_, .inr ⟨e, h2, rfl⟩⟩
    have t := ((lyr_tb (pth_lt P g k) hc h1 e).mp ((lyr_fd (pth_lt P g k) hc h1 h2).mpr h5)).1
    rcases rr_in (pth_lt P g k) hc h1 e t with q | q
    · rw [q]; exact hf
    · exact pth_fr q
theorem V_cm {P : pl_T} {g : pg_g} {k c : Nat} (hv : pg_V g (pN P) (pF P)) (h6 : pN P ≤ 6) (hk : k < pN P) (hc : c < 18) (hf : (frm g (pN P) (pF P)).testBit c = true) : pg_V (pu g k (cmb P g k c).1) (pN P) (pF P) := by
  obtain ⟨i, i1, i2, i3, _⟩ := cmb_sp P g k hc hf
  rw [i2]
  exact V_on hv h6 hk i1 i3
section
variable {S : ov_S} {P : pl_T} {a : Nat} {g : pg_g} {p : Nat}
theorem s101_45 (h : pl_R S P) (hv : pg_V g (pN P) (pF P)) (he : pg_E S a g (pF P)) {k c : Nat} (hk : k < pN P) (hc : c < 18) : f101_45 a S (nI k) (nI c) (nI (pth P g k)) = some (cmd P g k c, ov_up S (a + 1) k (cmb P g k c).1) := by
  have hm := pth_lt P g k
  have sl := shn_lt P g
  have sp := cbs_sp (A := fun n => (shn P g).testBit n) (c := c) (fd_D (m := pth P g k) (c := c)) 18 (Nat.le_refl _)
  unfold f101_45
  rw [s37 h hv he, Option.bind_some, s24 hc, Option.bind_some]
  have L : ∃ e, ov_lp (fun s => b101_66 a (nI k) (nI c) (nI (pth P g k)) (nI (shn P g)) s.1 s.2.1 s.2.2.1 s.2.2.2) 2000 (nI (2 ^ c), nI (2 ^ c), (0 : Int32), S) = some e ∧ ((e = .inl S ∧ ∀ e, e < 18 → lyr (pth P g k) c e &&& shn P g = 0) ∨ ∃ d n, d < 18 ∧ n < 18 ∧ e = .inr (nI d, ov_up S (a + 1) k (nI n)) ∧ (lyr (pth P g k) c d &&& shn P g).testBit n = true ∧ (∀ i, i < n → (lyr (pth P g k) c d &&& shn P g).testBit i = false) ∧ ∀ e, e < d → lyr (pth P g k) c e &&& shn P g = 0) := by
    refine lp_inv2
      (fun d s => s = (nI (lyr (pth P g k) c d), nI (rr (pth P g k) c d), nI d, S) ∧ ∀ e, e < d → lyr (pth P g k) c e &&& shn P g = 0)
      (fun (e : ov_S ⊕ (Int32 × ov_S)) => (e = .inl S ∧ ∀ e, e < 18 → lyr (pth P g k) c e &&& shn P g = 0) ∨ ∃ d n, d < 18 ∧ n < 18 ∧ e = .inr (nI d, ov_up S (a + 1) k (nI n)) ∧ (lyr (pth P g k) c d &&& shn P g).testBit n = true ∧ (∀ i, i < n → (lyr (pth P g k) c d &&& shn P g).testBit i = false) ∧ ∀ e, e < d → lyr (pth P g k) c e &&& shn P g = 0) 18 ?_ ?_ 0 _ (by omega) ⟨rfl, fun e h => absurd h (Nat.not_lt_zero _)⟩ (by omega)
    · rintro d s hd ⟨rfl, w⟩
      have ll := lyr_lt hm hc d
      have rl := rr_lt hm hc d
      have xl : lyr (pth P g k) c d &&& shn P g < 2 ^ 18 := and_lt sl
      show (∃ s', b101_66 a (nI k) (nI c) (nI (pth P g k)) (nI (shn P g)) (nI (lyr (pth P g k) c d)) (nI (rr (pth P g k) c d)) (nI d) S = _ ∧ _) ∨ ∃ e, b101_66 a (nI k) (nI c) (nI (pth P g k)) (nI (shn P g)) (nI (lyr (pth P g k) c d)) (nI (rr (pth P g k) c d)) (nI d) S = _ ∧ _
      unfold b101_66
      rw [show (18 : Int32) = nI 18 from rfl, if_neg (nle_nI hd (by omega))]
      by_cases z : lyr (pth P g k) c d = 0
      · rw [if_pos (by rw [z]; rfl)]
        refine .inr ⟨.inl S, rfl, .inl ⟨rfl, fun e he => ?_⟩⟩
        by_cases q : e < d
        · exact w e q
        · have : lyr (pth P g k) c e = 0 := by
            cases d with
            | zero =>
              have z : 2 ^ c = 0 := z
              have := Nat.two_pow_pos c
              omega
            | succ d => exact lyr_0 d e z (by omega)
          rw [this, Nat.zero_and]
      · rw [if_neg (fun q => z ((nI_z (by omega)).mp q)), nI_and]
        by_cases y : lyr (pth P g k) c d &&& shn P g = 0
        · rw [if_pos (by rw [y]; rfl), s68 rl, Option.bind_some, nI_or, nI_1]
          refine .inl ⟨_, rfl, rfl, fun e he => ?_⟩
          by_cases q : e < d
          · exact w e q
          · rw [show e = d by omega]
            exact y
        · rw [if_neg (fun q => y ((nI_z (by omega)).mp q))]
          have : ∃ n, n < 18 ∧ (lyr (pth P g k) c d &&& shn P g).testBit n = true ∧ ∀ i, i < n → (lyr (pth P g k) c d &&& shn P g).testBit i = false := by
            generalize lyr (pth P g k) c d &&& shn P g = x at y xl
            have ex : ∃ n, x.testBit n = true := by
              apply Classical.byContradiction
              intro q
              apply y
              apply Nat.eq_of_testBit_eq
              intro i
              rw [Nat.zero_testBit]
              cases t : x.testBit i
              · rfl
              · exact absurd ⟨i, t⟩ q
            have least : ∀ n, x.testBit n = true → ∃ n, x.testBit n = true ∧ ∀ i, i < n → x.testBit i = false := by
              intro n
              induction n using Nat.strongRecOn with
              | ind n ih =>
                intro t
                by_cases q : ∃ i, i < n ∧ x.testBit i = true
                · obtain ⟨i, i1, i2⟩ := q
                  exact ih i i1 i2
                · refine ⟨n, t, fun i hi => ?_⟩
                  cases u : x.testBit i
                  · rfl
                  · exact absurd ⟨i, hi, u⟩ q
            obtain ⟨n0, t0⟩ := ex
            obtain ⟨n, t1, t2⟩ := least n0 t0
            refine ⟨n, ?_, t1, t2⟩
            rcases Nat.lt_or_ge n 18 with q | q
            · exact q
            · rw [tb_out xl q] at t1
              cases t1
          obtain ⟨n, n1, n2, n3⟩ := this
          rw [s102 xl n1 n2 n3, Option.bind_some, s90 h hk]
          exact .inr ⟨_, rfl, .inr ⟨d, n, hd, n1, rfl, n2, n3, w⟩⟩
    · rintro s ⟨rfl, w⟩
      refine ⟨.inl S, ?_, .inl ⟨rfl, w⟩⟩
      show b101_66 a (nI k) (nI c) (nI (pth P g k)) (nI (shn P g)) _ _ (nI 18) S = _
      unfold b101_66
      rw [show (18 : Int32) = nI 18 from rfl, if_pos (le_nI (Nat.le_refl _) (by omega))]
  obtain ⟨e, e1, e2⟩ := L
  rw [e1, Option.bind_some]
  rcases e2 with ⟨rfl, w⟩ | ⟨d, n, d1, n1, rfl, w1, w2, w3⟩
  · show f101_124 a S (nI k) (nI c) = _
    have bb : cmb P g k c = (nI c, -9) := by
      unfold cmb
      rcases sp with ⟨h1, h2⟩ | ⟨i, e, h1, h2, h3, h4, h5, h6⟩
      · exact h1
      · exfalso
        have := (and0 _ _).mp (w e h2) i
        exact this ⟨(lyr_fd hm hc h1 h2).mpr h5, h4⟩
    unfold f101_124 cmd
    rw [s90 h hk, bb]
    rfl
  · rw [Nat.testBit_and, Bool.and_eq_true] at w1
    have bb : cmb P g k c = (nI n, nI d) := by
      unfold cmb
      rcases sp with ⟨h1, h2⟩ | ⟨i, e, h1, h2, h3, h4, h5, h6⟩
      · exfalso
        rcases h2 n n1 with q | q
        · rw [(lyr_fd hm hc n1 d1).mp w1.1] at q
          exact nI_m9 (by omega) q
        · have q : (shn P g).testBit n = false := q
          rw [w1.2] at q
          cases q
      · have q := h6 n d n1 d1 w1.2 ((lyr_fd hm hc n1 d1).mp w1.1)
        have ed : e = d := by
          rcases Nat.lt_or_ge e d with z | z
          · exact absurd ⟨(lyr_fd hm hc h1 h2).mpr h5, h4⟩ ((and0 _ _).mp (w3 e z) i)
          · omega
        have : n ≤ i := by
          rcases Nat.lt_or_ge i n with z | z
          · have := w2 i z
            rw [Nat.testBit_and, ← ed, (lyr_fd hm hc h1 h2).mpr h5, Bool.true_and] at this
            rw [show (shn P g).testBit i = true from h4] at this
            cases this
          · exact z
        rw [h3, ed, show i = n by omega]
    show some (nI d, ov_up S (a + 1) k (nI n)) = _
    unfold cmd
    rw [bb, if_neg (nI_m9 (show d < 2 ^ 31 by omega))]
theorem s101 (h : pl_R S P) (hv : pg_V g (pN P) (pF P)) (he : pg_E S a g (pF P)) {k d : Nat} (hk : k < pN P) (hd : d < pD P) : f101 a S (nI k) (nI d) = some (if (frm g (pN P) (pF P)).testBit (dr P d) then (cmd P g k (dr P d), ov_up S (a + 1) k (cmb P g k (dr P d)).1) else (-9, S)) := by
  have kq := r_kd h hk
  have hc := (r_dr h hd).2
  have fl := frm_lt g (pN P) (pF P)
  unfold f101
  rw [s59 h hd, Option.bind_some, s53f h hv he, Option.bind_some, s23 (by omega) (by omega), Option.bind_some]
  cases t : (frm g (pN P) (pF P)).testBit (dr P d)
  · rw [if_c0]
    rfl
  · rw [if_c1, s64 h hk, Option.bind_some, if_pos rfl, ← s101_45 h hv he hk hc]
    unfold pth
    by_cases q : kd P k = 1
    · rw [if_pos (show nI (kd P k) = 1 by rw [q]; rfl), if_pos q]
      rfl
    · rw [if_neg (show ¬ nI (kd P k) = 1 from nI_ne (b := 1) q (by omega) (by omega)), if_neg q]
theorem s101n (h : pl_R S P) (hv : pg_V g (pN P) (pF P)) (he : pg_E S a g (pF P)) {x : Int32} : f101 a S x (-9) = some (-9, S) := by
  unfold f101
  rw [s59n h (.inl (by decide)), Option.bind_some, s53f h hv he, Option.bind_some, s23n, Option.bind_some, if_pos rfl]
end
