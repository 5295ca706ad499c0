-- BASE: loops, masks, small numbers
theorem lp_stop {σ ε : Type} {body : σ → Option (σ ⊕ ε)} {s : σ} {e : ε} {N : Nat} (h : body s = some (.inr e)) : ov_lp body (N + 1) s = some e := by
  unfold ov_lp
  rw [h]
theorem lp_go {σ ε : Type} {body : σ → Option (σ ⊕ ε)} {s s' : σ} {N : Nat} (h : body s = some (.inl s')) : ov_lp body (N + 1) s = ov_lp body N s' := by
  conv => lhs; unfold ov_lp
  rw [h]
theorem lp_forA {σ ε : Type} {body : σ → Option (σ ⊕ ε)} (f : Nat → σ) (e : ε) : ∀ (m i N : Nat), (∀ k, k < m → body (f (i + k)) = some (.inl (f (i + k + 1)))) → body (f (i + m)) = some (.inr e) → m < N → ov_lp body N (f i) = some e
  | 0, i, 0, _, _, h => absurd h (Nat.lt_irrefl 0)
  | 0, i, N + 1, _, he, _ => lp_stop he
  | m + 1, i, 0, _, _, h => absurd h (Nat.not_lt_zero _)
  | m + 1, i, N + 1, hs, he, h => by
    have h0 := hs 0 (by omega)
    rw [Nat.add_zero] at h0
    rw [lp_go h0]
    exact lp_forA f e m (i + 1) N (fun k hk => by
      have := hs (k + 1) (by omega)
      rw [show i + 1 + k = i + (k + 1) by omega]
      exact this) (by rw [show i + 1 + m = i + (m + 1) by omega]; exact he) (by omega)
/-- a loop by its states, one after the other -/
theorem lp_for {σ ε : Type} {body : σ → Option (σ ⊕ ε)} (f : Nat → σ) (m : Nat) {s : σ} {e : ε} {N : Nat} (h0 : f 0 = s) (hs : ∀ k, k < m → body (f k) = some (.inl (f (k + 1)))) (he : body (f m) = some (.inr e)) (hN : m < N) : ov_lp body N s = some e := by
  rw [← h0]
  exact lp_forA f e m 0 N (fun k hk => by rw [Nat.zero_add]; exact hs k hk) (by rw [Nat.zero_add]; exact he) hN
-- numbers
theorem ib_nI {k n : Nat} (h : k < n) (hn : n < 2 ^ 31) : ov_ibb (nI k) n = true := by
  have hk : k < 2 ^ 31 := by omega
  unfold ov_ibb
  rw [nI_clamp hk]
  have h1 : ¬ nI k < 0 := nI_pos hk
  simp [h1]
  omega
theorem nI_l0 {k : Nat} (h : k < 2 ^ 31) : ¬ nI k < 0 := nI_pos h
theorem nI_i {x y : Nat} (hx : x < 2 ^ 31) (hy : y < 2 ^ 31) (h : nI x = nI y) : x = y := (nI_eq hx hy).mp h
theorem nI_m9 {k : Nat} (h : k < 2 ^ 31) : ¬ nI k = -9 := by
  intro q
  have h1 := nI_toInt h
  rw [q] at h1
  have h2 : (-9 : Int32).toInt = -9 := by decide
  omega
-- masks
def mk : Nat → (Nat → Bool) → Nat
  | 0, _ => 0
  | n + 1, P => mk n P ||| (if P n then 2 ^ n else 0)
def mkl : Nat → (Nat → Nat) → Nat
  | 0, _ => 0
  | n + 1, g => mkl n g ||| 2 ^ g n
theorem tb_pow (a b : Nat) : (2 ^ a).testBit b = decide (a = b) := Nat.testBit_two_pow
theorem tb_mk (n : Nat) (P : Nat → Bool) (i : Nat) : (mk n P).testBit i = (decide (i < n) && P i) := by
  induction n with
  | zero => simp [mk]
  | succ n ih =>
    unfold mk
    rw [Nat.testBit_or, ih]
    by_cases hi : i = n
    · subst hi
      cases hp : P i <;> simp [hp, tb_pow]
    · have h1 : decide (i < n + 1) = decide (i < n) := by
        rw [decide_eq_decide]; omega
      rw [h1]
      cases hp : P n
      · simp
      · simp [tb_pow, Ne.symm hi]
theorem tb_mkl (n : Nat) (g : Nat → Nat) (i : Nat) : (mkl n g).testBit i = (List.range n).any (fun k => g k == i) := by
  induction n with
  | zero => simp [mkl]
  | succ n ih =>
    unfold mkl
    rw [Nat.testBit_or, ih, tb_pow, List.range_succ, List.any_append]
    simp only [List.any_cons, List.any_nil, Bool.or_false]
    congr 1
theorem tb_lt {a n : Nat} (h : ∀ i, n ≤ i → a.testBit i = false) : a < 2 ^ n := Nat.lt_pow_two_of_testBit a h
theorem mk_lt (n : Nat) (P : Nat → Bool) : mk n P < 2 ^ n := tb_lt fun i hi => by
  rw [tb_mk]
  have : decide (i < n) = false := by simpa using hi
  rw [this]
  rfl
theorem mkl_lt {n m : Nat} {g : Nat → Nat} (h : ∀ k, k < n → g k < m) : mkl n g < 2 ^ m := tb_lt fun i hi => by
  rw [tb_mkl]
  rw [List.any_eq_false]
  intro k hk
  have := h k (List.mem_range.mp hk)
  simp
  omega
theorem mk_ext {n : Nat} {P Q : Nat → Bool} (h : ∀ i, i < n → P i = Q i) : mk n P = mk n Q := by
  apply Nat.eq_of_testBit_eq
  intro i
  rw [tb_mk, tb_mk]
  by_cases hi : i < n
  · rw [h i hi]
  · have : decide (i < n) = false := by simpa using hi
    rw [this]
    rfl
-- operations on masks
theorem nI_or (a b : Nat) : nI a ||| nI b = nI (a ||| b) := by
  apply Int32.toBitVec_inj.mp
  show BitVec.ofNat 32 a ||| BitVec.ofNat 32 b = BitVec.ofNat 32 (a ||| b)
  apply BitVec.eq_of_toNat_eq
  simp [BitVec.toNat_or, Nat.or_mod_two_pow]
theorem nI_and (a b : Nat) : nI a &&& nI b = nI (a &&& b) := by
  apply Int32.toBitVec_inj.mp
  show BitVec.ofNat 32 a &&& BitVec.ofNat 32 b = BitVec.ofNat 32 (a &&& b)
  apply BitVec.eq_of_toNat_eq
  simp [BitVec.toNat_and, Nat.and_mod_two_pow]
theorem nI_sh1 : ∀ c, c < 31 → (1 : Int32) <<< (nI c &&& 31) = nI (2 ^ c) := by decide +kernel
theorem nI_shrA : ∀ c, c < 31 → ((nI c &&& 31).toBitVec.smod 32).toNat = c := by decide +kernel
theorem nI_shr {a c : Nat} (ha : a < 2 ^ 31) (hc : c < 31) : nI a >>> (nI c &&& 31) = nI (a / 2 ^ c) := pk_shrN ha _ c (nI_shrA c hc)
theorem nI_bit {a c : Nat} (ha : a < 2 ^ 31) (hc : c < 31) : (nI a >>> (nI c &&& 31)) &&& 1 = nI (if a.testBit c then 1 else 0) := by
  rw [nI_shr ha hc, show (1 : Int32) = nI 1 from rfl, nI_and]
  congr 1
  rw [Nat.and_one_is_mod, Nat.testBit_eq_decide_div_mod_eq]
  have := Nat.mod_two_eq_zero_or_one (a / 2 ^ c)
  rcases this with h | h <;> simp [h]
theorem s23 {a c : Nat} (ha : a < 2 ^ 31) (hc : c < 31) : f23 (nI a) (nI c) = some (if a.testBit c then 1 else 0) := by
  unfold f23
  rw [if_neg (nI_l0 (by omega)), show (31 : Int32) = nI 31 from rfl, if_neg (by rw [nI_leI (by omega) (by omega)]; omega), show nI 31 = (31 : Int32) from rfl, nI_bit ha hc]
  cases a.testBit c <;> rfl
theorem s23n (x : Int32) : f23 x (-9) = some 0 := by
  unfold f23
  rw [if_pos (by decide)]
theorem s152 {a c : Nat} (ha : a < 2 ^ 31) (hc : c < 31) : f152 (nI a) (nI c) = some (if a.testBit c then 1 else 0) := by
  unfold f152
  rw [nI_bit ha hc]
  cases a.testBit c <;> rfl
theorem s24 {c : Nat} (hc : c < 18) : f24 (nI c) = some (nI (2 ^ c)) := by
  unfold f24
  rw [if_neg (nI_l0 (by omega)), show (18 : Int32) = nI 18 from rfl, if_neg (by rw [nI_leI (by omega) (by omega)]; omega), nI_sh1 c (by omega)]
theorem s24n : f24 (-9) = some 0 := by decide
theorem s27 {a c : Nat} (hc : c < 31) : f27 (nI a) (nI c) = some (nI (a ||| 2 ^ c)) := by
  unfold f27
  rw [if_neg (nI_l0 (by omega)), show (31 : Int32) = nI 31 from rfl, if_neg (by rw [nI_leI (by omega) (by omega)]; omega), show nI 31 = (31 : Int32) from rfl, nI_sh1 c hc, nI_or]
theorem s49 {c : Nat} (hc : c < 2 ^ 31) : f49 (nI c) = some (if c < 18 then 1 else 0) := by
  unfold f49
  rw [if_neg (nI_l0 hc), show (18 : Int32) = nI 18 from rfl]
  by_cases h : c < 18
  · rw [if_neg (by rw [nI_leI (by omega) hc]; omega), if_pos h]
  · rw [if_pos (by rw [nI_leI (by omega) hc]; omega), if_neg h]
theorem s49n {x : Int32} (h : x < 0) : f49 x = some 0 := by
  unfold f49
  rw [if_pos h]
-- between two longs that are ints
theorem cmp_i (x y : Int32) : lg_cmp x.toInt64 y.toInt64 = if y < x then 1 else if x = y then 0 else -1 := by
  have e : ∀ a b : Int32, a.toInt64 < b.toInt64 ↔ a < b := fun a b => by
    rw [Int64.lt_iff_toInt_lt, Int32.lt_iff_toInt_lt, Int32.toInt_toInt64, Int32.toInt_toInt64]
  have h3 : x.toInt64 = y.toInt64 ↔ x = y := by
    constructor
    · intro h
      apply Int32.toInt_inj.mp
      rw [← Int32.toInt_toInt64, ← Int32.toInt_toInt64, h]
    · intro h; rw [h]
  unfold lg_cmp
  by_cases g1 : y < x
  · rw [if_pos ((e y x).mpr g1), if_pos g1]
  · rw [if_neg (fun q => g1 ((e y x).mp q)), if_neg g1]
    by_cases g2 : x = y
    · rw [if_pos (h3.mpr g2), if_pos g2]
    · rw [if_neg (fun q => g2 (h3.mp q)), if_neg g2]
theorem s144 (x a b : Int32) : f144 x.toInt64 a.toInt64 b.toInt64 = some (if a ≤ x ∧ x ≤ b then 1 else 0) := by
  unfold f144
  rw [cmp_i, cmp_i]
  have o : ∀ p q : Int32, p < q → ¬ q ≤ p := fun p q h => Int32.not_le.mpr h
  by_cases h1 : x < a
  · have h1a : ¬ a < x := fun q => Int32.lt_irrefl (Int32.lt_trans h1 q)
    have h1b : ¬ x = a := fun q => Int32.lt_irrefl (q ▸ h1)
    rw [if_neg h1a, if_neg h1b, if_pos (by decide), if_neg (fun q => o _ _ h1 q.1)]
  · have hax : a ≤ x := Int32.not_lt.mp h1
    have hz : ¬ (if a < x then (1 : Int32) else if x = a then 0 else -1) < 0 := by
      by_cases g : a < x
      · rw [if_pos g]; decide
      · have : x = a := by
          rcases Int32.lt_or_eq_of_le hax with q | q
          · exact absurd q g
          · exact q.symm
        rw [if_neg g, if_pos this]; decide
    rw [if_neg hz]
    by_cases h2 : b < x
    · rw [if_pos h2, if_pos (by decide), if_neg (fun q => o _ _ h2 q.2)]
    · have : ¬ (0 : Int32) < (if b < x then (1 : Int32) else if x = b then 0 else -1) := by
        rw [if_neg h2]
        split <;> decide
      rw [if_neg this, if_pos ⟨hax, Int32.not_lt.mp h2⟩]
