-- PAGES: which cells are filled, which are free
theorem lp_bind {σ ε β : Type} {body : σ → Option (σ ⊕ ε)} (f : Nat → σ) (m : Nat) {s : σ} {e : ε} {N : Nat} {k : ε → Option β} {r : Option β} (h0 : f 0 = s) (hs : ∀ k, k < m → body (f k) = some (.inl (f (k + 1)))) (he : body (f m) = some (.inr e)) (hN : m < N) (hk : k e = r) : (ov_lp body N s).bind k = r := by
  rw [lp_for f m h0 hs he hN]
  exact hk
theorem le_nI {a b : Nat} (h : a ≤ b) (hb : b < 2 ^ 31) : nI a ≤ nI b := (nI_leI (by omega) hb).mpr h
theorem nle_nI {a b : Nat} (h : b < a) (ha : a < 2 ^ 31) : ¬ nI a ≤ nI b := fun q => absurd ((nI_leI ha (by omega)).mp q) (by omega)
theorem lt_nI {a b : Nat} (h : a < b) (hb : b < 2 ^ 31) : nI a < nI b := (nI_ltI (by omega) hb).mpr h
theorem nlt_nI {a b : Nat} (h : b ≤ a) (ha : a < 2 ^ 31) : ¬ nI a < nI b := fun q => absurd ((nI_ltI ha (by omega)).mp q) (by omega)
def sl (g : pg_g) (f : Nat) : Nat := (g (7 + f)).toNatClampNeg
def ps (g : pg_g) (k : Nat) : Nat := (g k).toNatClampNeg
theorem sl_e {g : pg_g} {f c : Nat} (hc : c < 18) (h : g (7 + f) = nI c) : sl g f = c := by
  unfold sl
  rw [h, nI_clamp (by omega)]
theorem ps_e {g : pg_g} {k c : Nat} (hc : c < 18) (h : g k = nI c) : ps g k = c := by
  unfold ps
  rw [h, nI_clamp (by omega)]
def stm (g : pg_g) (F : Nat) : Nat := mkl F (sl g)
/-- cells of the parts of a mask, of the first n -/
def pms : Nat → Nat → pg_g → Nat
  | 0, _, _ => 0
  | n + 1, m, g => pms n m g ||| (if m.testBit n = true ∧ g n ≠ -9 then 2 ^ ps g n else 0)
theorem tb_pms (n m : Nat) (g : pg_g) (i : Nat) : (pms n m g).testBit i = (List.range n).any (fun k => m.testBit k && decide (g k ≠ -9) && decide (ps g k = i)) := by
  induction n with
  | zero => simp [pms]
  | succ n ih =>
    unfold pms
    rw [Nat.testBit_or, ih, List.range_succ, List.any_append]
    simp only [List.any_cons, List.any_nil, Bool.or_false]
    congr 1
    by_cases h1 : m.testBit n = true
    · by_cases h2 : g n = -9
      · simp [h2]
      · simp [h1, h2, tb_pow]
    · have : m.testBit n = false := by simpa using h1
      simp [this]
theorem stm_lt {g : pg_g} {N F : Nat} (h : pg_V g N F) : stm g F < 2 ^ 18 := mkl_lt fun f hf => by
  obtain ⟨c, hc, e⟩ := h.2.2.1 f hf
  rw [sl_e hc e]
  exact hc
theorem pms_lt {g : pg_g} {N F n m : Nat} (h : pg_V g N F) (hn : n ≤ 6) : pms n m g < 2 ^ 18 := tb_lt fun i hi => by
  rw [tb_pms, List.any_eq_false]
  intro k hk
  have hk := List.mem_range.mp hk
  rcases h.1 k (by omega) with e | ⟨c, hc, e⟩
  · simp [e]
  · rw [ps_e hc e]
    simp
    intros
    omega
theorem s168 {S : ov_S} {p : Nat} {P : pl_T} {g : pg_g} (h : pl_R S P) (hm : pg_M S p g) (hv : pg_V g (pN P) (pF P)) : f168 p S = some (nI (stm g (pF P))) := by
  have h4 := r_F4 h
  unfold f168
  refine lp_bind (fun k => (nI (mkl k (sl g)), nI k)) (pF P) (e := nI (mkl (pF P) (sl g))) rfl (fun k hk => ?_) ?_ (by omega) rfl
  · obtain ⟨c, hc, e⟩ := hv.2.2.1 k hk
    show b168_4 p S (nI (mkl k (sl g))) (nI k) = some (.inl (nI (mkl k (sl g) ||| 2 ^ sl g k), nI (k + 1)))
    unfold b168_4
    rw [r_mF h, if_neg (nle_nI hk (by omega)), hm.1, show (7 : Int32) = nI 7 from rfl, nI_add, ov_ck_t (ib_nI (by omega) (by omega)), nI_clamp (by omega), hm.2 _ (by omega), e, nI_sh1 c (by omega), nI_or, nI_1, sl_e hc e]
  · show b168_4 p S (nI (mkl (pF P) (sl g))) (nI (pF P)) = _
    unfold b168_4
    rw [r_mF h, if_pos (le_nI (Nat.le_refl _) (by omega))]
theorem s43 {S : ov_S} {a F N : Nat} {g : pg_g} (h4 : F ≤ 4) (hv : pg_V g N F) (he : pg_E S a g F) : f43 a S = some (nI (stm g F)) := by
  unfold f43
  refine lp_bind (fun k => (nI (mkl (min k F) (sl g)), nI k)) 4 (e := nI (mkl F (sl g))) (by simp [mkl]; rfl) (fun k hk => ?_) ?_ (by omega) rfl
  · show b43_4 a S (nI (mkl (min k F) (sl g))) (nI k) = some (.inl (nI (mkl (min (k + 1) F) (sl g)), nI (k + 1)))
    unfold b43_4
    rw [show (4 : Int32) = nI 4 from rfl, if_neg (nle_nI hk (by omega)), ov_ck_t (ib_nI hk (by omega)), nI_clamp (by omega), he.2.1 k hk]
    by_cases hf : k < F
    · obtain ⟨c, hc, e⟩ := hv.2.2.1 k hf
      rw [if_pos hf, e, s24 hc]
      show some (Sum.inl (nI _ ||| nI (2 ^ c), nI k + 1)) = _
      rw [nI_or, nI_1, show min k F = k by omega, show min (k + 1) F = k + 1 by omega]
      show _ = some (Sum.inl (nI (mkl k (sl g) ||| 2 ^ sl g k), nI (k + 1)))
      rw [sl_e hc e]
    · rw [if_neg hf, s24n]
      show some (Sum.inl (nI _ ||| nI 0, nI k + 1)) = _
      rw [nI_or, nI_1, Nat.or_zero, show min k F = F by omega, show min (k + 1) F = F by omega]
  · show b43_4 a S (nI (mkl (min 4 F) (sl g))) (nI 4) = _
    unfold b43_4
    rw [show (4 : Int32) = nI 4 from rfl, if_pos (le_nI (Nat.le_refl _) (by omega)), show min 4 F = F by omega]
theorem s40 {S : ov_S} {a F N m : Nat} {g : pg_g} (hm : m < 2 ^ 31) (hv : pg_V g N F) (he : pg_E S a g F) : f40 a S (nI m) = some (nI (pms 6 m g)) := by
  unfold f40
  refine lp_bind (fun k => (nI (pms k m g), nI k)) 6 (e := nI (pms 6 m g)) rfl (fun k hk => ?_) ?_ (by omega) rfl
  · show b40_4 a S (nI m) (nI (pms k m g)) (nI k) = some (.inl (nI (pms k m g ||| (if m.testBit k = true ∧ g k ≠ -9 then 2 ^ ps g k else 0)), nI (k + 1)))
    unfold b40_4
    rw [show (6 : Int32) = nI 6 from rfl, if_neg (nle_nI hk (by omega)), s23 hm (by omega)]
    by_cases hb : m.testBit k = true
    · rw [if_pos hb]
      rw [Option.bind_some, if_neg (show ¬ (1 : Int32) = 0 by decide), ov_ck_t (ib_nI hk (by omega)), nI_clamp (by omega), he.1 k hk]
      rcases hv.1 k hk with e | ⟨c, hc, e⟩
      · rw [e, s24n, if_neg (fun q => q.2 rfl)]
        show some (Sum.inl (nI _ ||| nI 0, nI k + 1)) = _
        rw [nI_or, nI_1]
      · rw [if_pos ⟨hb, by rw [e]; exact nI_m9 (by omega)⟩, e, s24 hc, ps_e hc e]
        show some (Sum.inl (nI _ ||| nI (2 ^ c), nI k + 1)) = _
        rw [nI_or, nI_1]
    · rw [if_neg hb, if_neg (fun q => hb q.1)]
      rw [Option.bind_some, if_pos rfl]
      show some (Sum.inl (nI _ ||| nI 0, nI k + 1)) = _
      rw [nI_or, nI_1]
  · show b40_4 a S (nI m) (nI (pms 6 m g)) (nI 6) = _
    unfold b40_4
    rw [show (6 : Int32) = nI 6 from rfl, if_pos (le_nI (Nat.le_refl _) (by omega))]
theorem s170 {S : ov_S} {p : Nat} {P : pl_T} {g : pg_g} (h : pl_R S P) (hm : pg_M S p g) (hv : pg_V g (pN P) (pF P)) : f170 p S = some (nI (stm g (pF P) ||| pms (pN P) 63 g)) := by
  have h6 := r_N6 h
  unfold f170
  rw [s168 h hm hv]
  have t63 : ∀ k, k < 6 → (63 : Nat).testBit k = true := by decide
  refine lp_bind (fun k => (nI (stm g (pF P) ||| pms k 63 g), nI k)) (pN P) (e := nI (stm g (pF P) ||| pms (pN P) 63 g)) (by simp [pms]; rfl) (fun k hk => ?_) ?_ (by omega) rfl
  · show b170_8 p S (nI (stm g (pF P) ||| pms k 63 g)) (nI k) = some (.inl (nI (stm g (pF P) ||| (pms k 63 g ||| (if (63 : Nat).testBit k = true ∧ g k ≠ -9 then 2 ^ ps g k else 0))), nI (k + 1)))
    unfold b170_8
    rw [r_mN h, if_neg (nle_nI hk (by omega)), hm.1, show (0 : Int32) = nI 0 from rfl, nI_add, Nat.zero_add, ov_ck_t (ib_nI (by omega) (by omega)), nI_clamp (by omega), hm.2 _ (by omega)]
    rcases hv.1 k (by omega) with e | ⟨c, hc, e⟩
    · rw [if_pos e, if_neg (fun q => q.2 e)]
      show some (Sum.inl (nI _ ||| nI 0, nI k + 1)) = _
      rw [nI_or, nI_1, Nat.or_zero, Nat.or_zero]
    · have e9 : ¬ g k = -9 := by rw [e]; exact nI_m9 (by omega)
      rw [if_neg e9, if_pos ⟨t63 k (by omega), e9⟩, ov_ck_t (ib_nI (by omega) (by omega)), e, ps_e hc e, nI_sh1 c (by omega)]
      show some (Sum.inl (nI _ ||| nI (2 ^ c), nI k + 1)) = _
      rw [nI_or, nI_1, Nat.or_assoc]
  · show b170_8 p S (nI (stm g (pF P) ||| pms (pN P) 63 g)) (nI (pN P)) = _
    unfold b170_8
    rw [r_mN h, if_pos (le_nI (Nat.le_refl _) (by omega))]
theorem pms_N {g : pg_g} {N F m : Nat} (hv : pg_V g N F) (h6 : N ≤ 6) : pms 6 m g = pms N m g := by
  apply Nat.eq_of_testBit_eq
  intro i
  rw [tb_pms, tb_pms]
  rw [Bool.eq_iff_iff]
  simp only [List.any_eq_true, List.mem_range]
  constructor
  · rintro ⟨k, hk, h⟩
    by_cases hkN : k < N
    · exact ⟨k, hkN, h⟩
    · have := hv.2.1 k (by omega) hk
      simp [this] at h
  · rintro ⟨k, hk, h⟩
    exact ⟨k, by omega, h⟩
-- masks taken away
def cm (m b : Nat) : Nat := m &&& (b ^^^ 4294967295)
theorem nI_xor (a b : Nat) : nI a ^^^ nI b = nI (a ^^^ b) := by
  apply Int32.toBitVec_inj.mp
  show BitVec.ofNat 32 a ^^^ BitVec.ofNat 32 b = BitVec.ofNat 32 (a ^^^ b)
  apply BitVec.eq_of_toNat_eq
  simp [BitVec.toNat_xor, Nat.xor_mod_two_pow]
theorem nI_cm (m b : Nat) : nI m &&& (nI b ^^^ (-1)) = nI (cm m b) := by
  rw [show (-1 : Int32) = nI 4294967295 from by decide, nI_xor, nI_and]
  rfl
theorem tb_ones : ∀ i, i < 32 → (4294967295 : Nat).testBit i = true := by decide
theorem tb_cm {m b i : Nat} (hm : m < 2 ^ 32) : (cm m b).testBit i = (m.testBit i && !b.testBit i) := by
  unfold cm
  rw [Nat.testBit_and, Nat.testBit_xor]
  by_cases hi : i < 32
  · rw [tb_ones i hi]
    cases b.testBit i <;> rfl
  · have : m.testBit i = false := Nat.testBit_lt_two_pow (Nat.lt_of_lt_of_le hm (Nat.pow_le_pow_right (by omega) (by omega)))
    rw [this]
    rfl
theorem cm_lt {m b n : Nat} (hm : m < 2 ^ n) : cm m b < 2 ^ n := Nat.lt_of_le_of_lt Nat.and_le_left hm
theorem s53 {S : ov_S} {a F N : Nat} {g : pg_g} (h4 : F ≤ 4) (hv : pg_V g N F) (he : pg_E S a g F) : f53 a S = some (nI (cm (cm 262143 (stm g F)) (pms 6 63 g))) := by
  unfold f53
  rw [s43 h4 hv he]
  show (f40 a S (63 : Int32)).bind _ = _
  rw [show (63 : Int32) = nI 63 from rfl, s40 (by omega) hv he]
  show some (((262143 : Int32) &&& (nI _ ^^^ (-1))) &&& (nI _ ^^^ (-1))) = _
  rw [show (262143 : Int32) = nI 262143 from rfl, nI_cm, nI_cm]
/-- the free cells, one mask for both sides -/
def frm (g : pg_g) (N F : Nat) : Nat := cm 262143 (stm g F ||| pms N 63 g)
theorem frm_e {g : pg_g} {N F : Nat} (hv : pg_V g N F) (h6 : N ≤ 6) : cm (cm 262143 (stm g F)) (pms 6 63 g) = frm g N F := by
  rw [pms_N hv h6]
  apply Nat.eq_of_testBit_eq
  intro i
  unfold frm
  rw [tb_cm (cm_lt (by decide)), tb_cm (by decide), tb_cm (by decide), Nat.testBit_or]
  cases (262143 : Nat).testBit i <;> cases (stm g F).testBit i <;> rfl
theorem frm_lt (g : pg_g) (N F : Nat) : frm g N F < 2 ^ 18 := cm_lt (by decide)
theorem tb_all : ∀ i, i < 18 → (262143 : Nat).testBit i = true := by decide
theorem tb_frm {g : pg_g} {N F i : Nat} (hi : i < 18) : (frm g N F).testBit i = !(stm g F ||| pms N 63 g).testBit i := by
  unfold frm
  rw [tb_cm (by decide), tb_all i hi]
  rfl
theorem s186 {S : ov_S} {p c : Nat} {P : pl_T} {g : pg_g} (h : pl_R S P) (hm : pg_M S p g) (hv : pg_V g (pN P) (pF P)) (hc : c < 18) : f186 p S (nI c) = some (if (frm g (pN P) (pF P)).testBit c then 1 else 0) := by
  unfold f186
  rw [s170 h hm hv]
  show (f152 (nI _) (nI c)).bind _ = _
  rw [s152 (Nat.lt_of_lt_of_le (Nat.or_lt_two_pow (stm_lt hv) (pms_lt hv (r_N6 h))) (by decide)) (by omega), tb_frm hc]
  cases (stm g (pF P) ||| pms (pN P) 63 g).testBit c <;> rfl
