-- RINGS: what is next to what, how far
theorem lp_inv {σ ε : Type} {body : σ → Option (σ ⊕ ε)} (I : Nat → σ → Prop) (Q : ε → Prop) (m : Nat) {N : Nat} (hs : ∀ k s, k < m → I k s → ∃ s', body s = some (.inl s') ∧ I (k + 1) s') (he : ∀ s, I m s → ∃ e, body s = some (.inr e) ∧ Q e) : ∀ (k : Nat) (s : σ), k ≤ m → I k s → m - k < N → ∃ e, ov_lp body N s = some e ∧ Q e := by
  induction N with
  | zero => intro k s _ _ h; exact absurd h (Nat.not_lt_zero _)
  | succ N ih =>
    intro k s hk hi hN
    by_cases e : k = m
    · rw [e] at hi
      obtain ⟨x, h1, h2⟩ := he s hi
      exact ⟨x, lp_stop h1, h2⟩
    · obtain ⟨s', h1, h2⟩ := hs k s (by omega) hi
      rw [lp_go h1]
      exact ih (k + 1) s' (by omega) h2 (by omega)
theorem nx_79 : ∀ c, c < 18 → ∀ w, w < 4 → f79 (nI c) (nI w) = f180 (nI c) (nI w) := by decide +kernel
def nxc (c w : Nat) : Int32 := match f180 (nI c) (nI w) with | some x => x | none => 0
theorem nx_180 : ∀ c, c < 18 → ∀ w, w < 4 → f180 (nI c) (nI w) = some (nxc c w) ∧ (nxc c w = -9 ∨ ((nxc c w).toNatClampNeg < 18 ∧ nxc c w = nI (nxc c w).toNatClampNeg)) := by decide +kernel
def adj (c n : Nat) : Bool := decide (nxc c 0 = nI n) || decide (nxc c 1 = nI n) || decide (nxc c 2 = nI n) || decide (nxc c 3 = nI n)
theorem adj_f : ∀ c, c < 18 → ∀ n, n < 18 → adj c n = (decide (c = n + 1 ∧ n % 6 ≠ 5) || decide (c + 1 = n ∧ c % 6 ≠ 5) || decide (c = n + 6) || decide (c + 6 = n)) := by decide +kernel
def rg (m x : Nat) : Nat := cm ((((x &&& 4294963134) / 2 ^ 1 ||| (x &&& 4294834143) * 2 ^ 1) ||| (x / 2 ^ 6 ||| x * 2 ^ 6)) &&& m) x
theorem s68 {x m : Nat} (hx : x < 2 ^ 18) : f68 (nI x) (nI m) = some (nI (rg m x)) := by
  have a1 : x &&& 4294963134 < 2 ^ 18 := Nat.lt_of_le_of_lt Nat.and_le_left hx
  have a2 : x &&& 4294834143 < 2 ^ 18 := Nat.lt_of_le_of_lt Nat.and_le_left hx
  unfold f68 rg
  rw [show (-1 : Int32) = nI 4294967295 from by decide, show (-4162 : Int32) = nI 4294963134 from by decide, show (-133153 : Int32) = nI 4294834143 from by decide, nI_and, nI_and, show (1 : Int32) = nI 1 from rfl, nI_shr (by omega) (by omega), pk_shlN _ 1 (by decide) (by omega), nI_or, show (6 : Int32) = nI 6 from rfl, nI_shr (by omega) (by omega), pk_shlN _ 6 (by decide) (by omega), nI_or, nI_or, nI_and, nI_xor, nI_and]
  rfl
theorem rg_lt {m x : Nat} (hm : m < 2 ^ 18) : rg m x < 2 ^ 18 := cm_lt (Nat.lt_of_le_of_lt Nat.and_le_right hm)
theorem m1_tb : ∀ n, n < 17 → (4294963134 : Nat).testBit (n + 1) = decide (n % 6 ≠ 5) := by decide +kernel
theorem m2_tb : ∀ n, n < 18 → (4294834143 : Nat).testBit n = decide (n % 6 ≠ 5) := by decide +kernel
theorem tb_out {x i : Nat} (hx : x < 2 ^ 18) (hi : 18 ≤ i) : x.testBit i = false := Nat.testBit_lt_two_pow (Nat.lt_of_lt_of_le hx (Nat.pow_le_pow_right (by omega) hi))
theorem tb_rg {m x n : Nat} (hm : m < 2 ^ 18) (hx : x < 2 ^ 18) (hn : n < 18) : (rg m x).testBit n = true ↔ m.testBit n = true ∧ x.testBit n = false ∧ ∃ c, c < 18 ∧ x.testBit c = true ∧ adj c n = true := by
  unfold rg
  rw [tb_cm (Nat.lt_of_le_of_lt Nat.and_le_right (by omega)), Nat.testBit_and, Nat.testBit_or, Nat.testBit_or, Nat.testBit_or, Nat.testBit_div_two_pow, Nat.testBit_div_two_pow, Nat.testBit_mul_two_pow, Nat.testBit_mul_two_pow, Nat.testBit_and, Nat.testBit_and]
  simp only [Bool.and_eq_true, Bool.or_eq_true, Bool.not_eq_true', decide_eq_true_eq, and_assoc]
  constructor
  · rintro ⟨q, q1, q2⟩
    refine ⟨q1, q2, ?_⟩
    rcases q with (⟨q3, q4⟩ | ⟨q3, q4, q5⟩) | (q3 | ⟨q3, q4⟩)
    · have c1 : n + 1 < 18 := by
        rcases Nat.lt_or_ge (n + 1) 18 with w | w
        · exact w
        · rw [tb_out hx w] at q3; cases q3
      refine ⟨n + 1, c1, q3, ?_⟩
      rw [m1_tb n (by omega), decide_eq_true_eq] at q4
      rw [adj_f _ c1 n hn]
      simp [q4]
    · refine ⟨n - 1, by omega, q4, ?_⟩
      rw [m2_tb _ (by omega), decide_eq_true_eq] at q5
      rw [adj_f _ (by omega) n hn]
      have : n - 1 + 1 = n := by omega
      simp [q5, this]
    · have c1 : n + 6 < 18 := by
        rcases Nat.lt_or_ge (n + 6) 18 with w | w
        · exact w
        · rw [tb_out hx w] at q3; cases q3
      refine ⟨n + 6, c1, q3, ?_⟩
      rw [adj_f _ c1 n hn]
      simp
    · refine ⟨n - 6, by omega, q4, ?_⟩
      rw [adj_f _ (by omega) n hn]
      have : n - 6 + 6 = n := by omega
      simp [this]
  · rintro ⟨q1, q2, c, hc, q3, q4⟩
    refine ⟨?_, q1, q2⟩
    rw [adj_f c hc n hn] at q4
    simp only [Bool.or_eq_true, decide_eq_true_eq] at q4
    rcases q4 with ((⟨w1, w2⟩ | ⟨w1, w2⟩) | w1) | w1
    · refine .inl (.inl ⟨?_, ?_⟩)
      · rw [show n + 1 = c by omega]; exact q3
      · rw [m1_tb n (by omega)]; exact decide_eq_true w2
    · have e : n - 1 = c := by omega
      refine .inl (.inr ⟨by omega, ?_, ?_⟩)
      · rw [e]; exact q3
      · rw [e, m2_tb c hc]; exact decide_eq_true w2
    · exact .inr (.inl (by rw [show n + 6 = c by omega]; exact q3))
    · exact .inr (.inr ⟨by omega, by rw [show n - 6 = c by omega]; exact q3⟩)
/-- what is reached in so many steps -/
def rr (m c : Nat) : Nat → Nat
  | 0 => 2 ^ c
  | d + 1 => rr m c d ||| rg m (rr m c d)
/-- how far, as known after so many rounds -/
def fdd (m c : Nat) : Nat → Nat → Int32
  | 0, n => if n = c then 0 else -9
  | d + 1, n => if fdd m c d n = -9 ∧ (rr m c (d + 1)).testBit n = true then nI (d + 1) else fdd m c d n
theorem rr_lt {m c : Nat} (hm : m < 2 ^ 18) (hc : c < 18) : ∀ d, rr m c d < 2 ^ 18
  | 0 => Nat.pow_lt_pow_right (by omega) hc
  | d + 1 => Nat.or_lt_two_pow (rr_lt hm hc d) (rg_lt hm)
theorem rr_up {m c n : Nat} {d e : Nat} (h : d ≤ e) (t : (rr m c d).testBit n = true) : (rr m c e).testBit n = true := by
  induction e with
  | zero =>
    have : d = 0 := by omega
    rw [← this]; exact t
  | succ e ih =>
    by_cases q : d ≤ e
    · show (rr m c e ||| rg m (rr m c e)).testBit n = true
      rw [Nat.testBit_or, ih q, Bool.true_or]
    · have : d = e + 1 := by omega
      rw [← this]; exact t
/-- after d rounds: either not reached, or reached at e first -/
theorem fdd_sp {m c n : Nat} : ∀ d, d < 2 ^ 31 → (fdd m c d n = -9 ∧ (rr m c d).testBit n = false) ∨ ∃ e, e ≤ d ∧ fdd m c d n = nI e ∧ (rr m c e).testBit n = true ∧ ∀ e', e' < e → (rr m c e').testBit n = false
  | 0, _ => by
    unfold fdd rr
    by_cases h : n = c
    · rw [if_pos h]
      exact .inr ⟨0, Nat.le_refl _, rfl, by rw [tb_pow]; exact decide_eq_true h.symm, fun e' h => absurd h (Nat.not_lt_zero _)⟩
    · rw [if_neg h]
      exact .inl ⟨rfl, by rw [tb_pow]; exact decide_eq_false (fun q => h q.symm)⟩
  | d + 1, hd => by
    rcases fdd_sp (m := m) (c := c) (n := n) d (by omega) with ⟨h1, h2⟩ | ⟨e, h1, h2, h3, h4⟩
    · cases t : (rr m c (d + 1)).testBit n
      · left
        refine ⟨?_, rfl⟩
        show (if fdd m c d n = -9 ∧ (rr m c (d + 1)).testBit n = true then nI (d + 1) else fdd m c d n) = -9
        rw [t, if_neg (fun q => Bool.noConfusion q.2), h1]
      · right
        refine ⟨d + 1, Nat.le_refl _, ?_, t, fun e' he => ?_⟩
        · show (if fdd m c d n = -9 ∧ (rr m c (d + 1)).testBit n = true then nI (d + 1) else fdd m c d n) = nI (d + 1)
          rw [if_pos ⟨h1, t⟩]
        · cases u : (rr m c e').testBit n
          · rfl
          · rw [rr_up (show e' ≤ d by omega) u] at h2
            cases h2
    · right
      refine ⟨e, by omega, ?_, h3, h4⟩
      show (if fdd m c d n = -9 ∧ (rr m c (d + 1)).testBit n = true then nI (d + 1) else fdd m c d n) = nI e
      by_cases q : fdd m c d n = -9
      · exfalso
        rw [h2] at q
        have := rr_up (show e ≤ d by omega) h3
        exact nI_m9 (show e < 2 ^ 31 by omega) q
      · rw [if_neg (fun w => q w.1), h2]
