-- FRACTIONS; CALLS: gives
theorem gcd_st (a b : Nat) : Nat.gcd a b = Nat.gcd b (a % b) := by
  rw [Nat.gcd_comm a b, Nat.gcd_rec b a, Nat.gcd_comm]
theorem md_half {b r : Nat} (h : r < b) : 2 * (b % r) < b ∨ r = 0 := by
  by_cases r0 : r = 0
  · exact .inr r0
  · left
    have h1 : b % r < r := Nat.mod_lt _ (by omega)
    have h2 : b % r + r ≤ b := by
      have e := Nat.mod_add_div b r
      have q : 1 ≤ b / r := Nat.div_pos (by omega) (by omega)
      have : r * 1 ≤ r * (b / r) := Nat.mul_le_mul_left r q
      omega
    omega
theorem lc_0 {b : Nat} (hb : b < 2 ^ 62) : lg_cmp (lN b) (0 : Int64) = 0 ↔ b = 0 := by
  have e : lN b = 0 ↔ b = 0 := pk_lEQ (b := 0) (by omega) (by omega)
  unfold lg_cmp
  by_cases h : b = 0
  · rw [h]
    exact ⟨fun _ => rfl, fun _ => by decide⟩
  · constructor
    · intro q
      split at q
      · exact absurd q (by decide)
      · split at q
        · rename_i z
          exact e.mp z
        · exact absurd q (by decide)
    · intro q
      exact absurd q h
theorem nzl_ok {b : Nat} (hb : b < 2 ^ 62) (h : b ≠ 0) : ov_nzl (lN b) = true := by
  unfold ov_nzl
  have e : lN b = 0 ↔ b = 0 := pk_lEQ (b := 0) (by omega) (by omega)
  rw [decide_eq_false (fun q => h (e.mp q))]
  rfl
theorem nz_ok {b : Nat} (hb : b < 2 ^ 31) (h : b ≠ 0) : ov_nz (nI b) = true := by
  unfold ov_nz
  rw [decide_eq_false (fun q => h ((nI_z hb).mp q))]
  rfl
theorem eu1_s {a b i : Nat} (ha : a < 2 ^ 62) (hb : b < 2 ^ 62) (hi : i < 1000) (h : b ≠ 0) : b121_9 (lN a) (lN b) (nI i) = some (.inl (lN b, lN (a % b), nI (i + 1))) := by
  unfold b121_9
  rw [if_neg (show ¬ (1000 : Int32) ≤ nI i from nle_nI (a := 1000) hi (by omega)), if_neg (fun q => h ((lc_0 hb).mp q)), ov_ck_t (nzl_ok hb h), pk_lRem (by omega) (by omega) (by omega), nI_1]
theorem eu1_e {a i : Nat} (hi : i < 1000) : b121_9 (lN a) (lN 0) (nI i) = some (.inr (lN a)) := by
  unfold b121_9
  rw [if_neg (show ¬ (1000 : Int32) ≤ nI i from nle_nI (a := 1000) hi (by omega)), if_pos ((lc_0 (b := 0) (by omega)).mpr rfl)]
theorem eu1 : ∀ k a b i N, a < 2 ^ 62 → b < 2 ^ 62 → b < 2 ^ k → i + 2 * k < 1000 → 2 * k + 1 < N → ov_lp (fun s => b121_9 s.1 s.2.1 s.2.2) N (lN a, lN b, nI i) = some (lN (Nat.gcd a b))
  | 0, a, b, i, N, ha, hb, hk, hi, hN => by
    obtain ⟨M, rfl⟩ : ∃ M, N = M + 1 := ⟨N - 1, by omega⟩
    have b0 : b = 0 := by
      have : (2 : Nat) ^ 0 = 1 := rfl
      omega
    rw [b0, Nat.gcd_zero_right]
    exact lp_stop (eu1_e (by omega))
  | k + 1, a, b, i, N, ha, hb, hk, hi, hN => by
    obtain ⟨M, rfl⟩ : ∃ M, N = M + 1 + 1 := ⟨N - 2, by omega⟩
    by_cases b0 : b = 0
    · rw [b0, Nat.gcd_zero_right]
      exact lp_stop (eu1_e (by omega))
    · rw [lp_go (body := fun s => b121_9 s.1 s.2.1 s.2.2) (s := (lN a, lN b, nI i)) (s' := (lN b, lN (a % b), nI (i + 1))) (eu1_s ha hb (by omega) b0), gcd_st]
      have rl : a % b < b := Nat.mod_lt _ (by omega)
      generalize a % b = r at rl
      by_cases r0 : r = 0
      · rw [r0, Nat.gcd_zero_right]
        exact lp_stop (eu1_e (by omega))
      · rw [lp_go (body := fun s => b121_9 s.1 s.2.1 s.2.2) (s := (lN b, lN r, nI (i + 1))) (s' := (lN r, lN (b % r), nI (i + 1 + 1))) (eu1_s hb (by omega) (by omega) r0), gcd_st]
        have hf := (md_half rl).resolve_right r0
        have p : 2 ^ (k + 1) = 2 * 2 ^ k := by rw [Nat.pow_succ]; omega
        exact eu1 k r (b % r) (i + 1 + 1) M (by omega) (by omega) (by omega) (by omega) (by omega)
theorem eu2_s {a b : Nat} (ha : a < 2 ^ 31) (hb : b < 2 ^ 31) (h : b ≠ 0) : b214_13 (nI a) (nI b) = some (.inl (nI b, nI (a % b))) := by
  unfold b214_13
  rw [if_neg (fun q => h ((nI_z hb).mp q)), ov_ck_t (nz_ok hb h), pk_rem (by omega) (by omega) (by omega)]
theorem eu2_e {a : Nat} : b214_13 (nI a) (nI 0) = some (.inr (nI a)) := by
  unfold b214_13
  rw [if_pos (show nI 0 = 0 from rfl)]
theorem eu2 : ∀ k a b N, a < 2 ^ 31 → b < 2 ^ 31 → b < 2 ^ k → 2 * k + 1 < N → ov_lp (fun s => b214_13 s.1 s.2) N (nI a, nI b) = some (nI (Nat.gcd a b))
  | 0, a, b, N, ha, hb, hk, hN => by
    obtain ⟨M, rfl⟩ : ∃ M, N = M + 1 := ⟨N - 1, by omega⟩
    have b0 : b = 0 := by
      have : (2 : Nat) ^ 0 = 1 := rfl
      omega
    rw [b0, Nat.gcd_zero_right]
    exact lp_stop eu2_e
  | k + 1, a, b, N, ha, hb, hk, hN => by
    obtain ⟨M, rfl⟩ : ∃ M, N = M + 1 + 1 := ⟨N - 2, by omega⟩
    by_cases b0 : b = 0
    · rw [b0, Nat.gcd_zero_right]
      exact lp_stop eu2_e
    · rw [lp_go (body := fun s => b214_13 s.1 s.2) (s := (nI a, nI b)) (s' := (nI b, nI (a % b))) (eu2_s ha hb b0), gcd_st]
      have rl : a % b < b := Nat.mod_lt _ (by omega)
      generalize a % b = r at rl
      by_cases r0 : r = 0
      · rw [r0, Nat.gcd_zero_right]
        exact lp_stop eu2_e
      · rw [lp_go (body := fun s => b214_13 s.1 s.2) (s := (nI b, nI r)) (s' := (nI r, nI (b % r))) (eu2_s hb (by omega) r0), gcd_st]
        have hf := (md_half rl).resolve_right r0
        have p : 2 ^ (k + 1) = 2 * 2 ^ k := by rw [Nat.pow_succ]; omega
        exact eu2 k r (b % r) M (by omega) (by omega) (by omega) (by omega)
-- signed numbers
def zI (z : Int) : Int32 := Int32.ofInt z
def zL (z : Int) : Int64 := Int64.ofInt z
theorem zI_n (n : Nat) : zI (n : Int) = nI n := Int32.ofInt_eq_ofNat
theorem zL_n (n : Nat) : zL (n : Int) = lN n := Int64.ofInt_eq_ofNat
theorem zI_add (a b : Int) : zI (a + b) = zI a + zI b := Int32.ofInt_add a b
theorem zI_mul (a b : Int) : zI (a * b) = zI a * zI b := Int32.ofInt_mul a b
theorem zI_sub (a b : Int) : zI (a - b) = zI a - zI b := Int32.ofInt_sub a b
theorem zL_add (a b : Int) : zL (a + b) = zL a + zL b := Int64.ofInt_add a b
theorem zL_mul (a b : Int) : zL (a * b) = zL a * zL b := Int64.ofInt_mul a b
theorem zL_i (a : Int) : (zL a).toInt32 = zI a := Int64.toInt32_ofInt
theorem zI_l {a : Int} (h1 : -2 ^ 31 ≤ a) (h2 : a < 2 ^ 31) : (zI a).toInt64 = zL a := by
  apply Int64.toInt_inj.mp
  unfold zI zL
  rw [Int32.toInt_toInt64, Int32.toInt_ofInt_of_le h1 h2, Int64.toInt_ofInt_of_le (by omega) (by omega)]
theorem zI_neg (n : Nat) : zI (-(n : Int)) = -nI n := by
  rw [← zI_n]
  exact Int32.ofInt_neg _
theorem zL_neg (n : Nat) : zL (-(n : Int)) = -lN n := by
  rw [← zL_n]
  exact Int64.ofInt_neg _
theorem zI_div {a b : Int} (a1 : -2 ^ 30 ≤ a) (a2 : a < 2 ^ 30) (b1 : -2 ^ 30 ≤ b) (b2 : b < 2 ^ 30) : zI a / zI b = zI (a.tdiv b) := by
  refine (Int32.ofInt_tdiv ?_ ?_ ?_ ?_).symm
  · rw [Int32.toInt_minValue]; omega
  · rw [Int32.toInt_maxValue]; omega
  · rw [Int32.toInt_minValue]; omega
  · rw [Int32.toInt_maxValue]; omega
theorem zL_div {a b : Int} (a1 : -2 ^ 30 ≤ a) (a2 : a < 2 ^ 30) (b1 : -2 ^ 30 ≤ b) (b2 : b < 2 ^ 30) : zL a / zL b = zL (a.tdiv b) := by
  refine (Int64.ofInt_tdiv ?_ ?_ ?_ ?_).symm
  · rw [Int64.toInt_minValue]; omega
  · rw [Int64.toInt_maxValue]; omega
  · rw [Int64.toInt_minValue]; omega
  · rw [Int64.toInt_maxValue]; omega
/-- what stands above or below the stroke -/
def frc (z : Int) (b : Nat) (x : Int32) : Int32 := if x = 0 then nI (b / Nat.gcd z.natAbs b) else zI (z.tdiv (Nat.gcd z.natAbs b : Nat))
theorem frc_n {b : Nat} (n : Nat) {x : Int32} : frc (n : Int) b x = if x = 0 then nI (b / Nat.gcd n b) else nI (n / Nat.gcd n b) := by
  unfold frc
  rw [Int.natAbs_natCast]
  by_cases h : x = 0
  · rw [if_pos h, if_pos h]
  · rw [if_neg h, if_neg h, ← Int.ofNat_tdiv, zI_n]
theorem ab1 {z : Int} (h1 : -2 ^ 30 < z) (h2 : z < 2 ^ 30) : (if 0 < zL z then zL z else -zL z) = lN z.natAbs := by
  rcases Int.lt_trichotomy z 0 with h | h | h
  · obtain ⟨n, hn⟩ : ∃ n : Nat, z = -(n : Int) := ⟨z.natAbs, by omega⟩
    rw [hn, zL_neg, Int.natAbs_neg, Int.natAbs_natCast, if_neg, Int64.neg_neg]
    rw [← zL_neg, Int64.lt_iff_toInt_lt]
    unfold zL
    rw [Int64.toInt_ofInt_of_le (by omega) (by omega)]
    show ¬ (0 : Int) < _
    omega
  · rw [h]
    rfl
  · obtain ⟨n, hn⟩ : ∃ n : Nat, z = (n : Int) := ⟨z.natAbs, by omega⟩
    rw [hn, zL_n, Int.natAbs_natCast, if_pos]
    rw [Int64.lt_iff_toInt_lt, pk_lT (by omega)]
    show (0 : Int) < _
    omega
theorem s119 {z : Int} {b : Nat} (h1 : -2 ^ 30 < z) (h2 : z < 2 ^ 30) (b0 : 0 < b) (hb : b < 2 ^ 30) (x : Int32) : f119 (zL z) (lN b) x = some (frc z b x) := by
  have az : z.natAbs < 2 ^ 30 := by omega
  have gp : 0 < Nat.gcd z.natAbs b := Nat.gcd_pos_of_pos_right _ b0
  have gl : Nat.gcd z.natAbs b ≤ b := Nat.le_of_dvd b0 (Nat.gcd_dvd_right _ _)
  have E : f121 (lN z.natAbs) (lN b) = some (lN (Nat.gcd z.natAbs b)) := by
    unfold f121
    have := eu1 62 z.natAbs b 0 2000 (by omega) (by omega) (by omega) (by omega) (by omega)
    rw [show ov_lp (fun s => b121_9 s.1 s.2.1 s.2.2) 2000 (lN z.natAbs, lN b, (0 : Int32)) = some (lN (Nat.gcd z.natAbs b)) from this]
    rfl
  unfold f119 f119_29
  rw [ab1 h1 h2, E, Option.bind_some, if_neg (fun q => absurd ((lc_0 (by omega)).mp q) (by omega)), ov_ck_t (nzl_ok (by omega) (by omega)), ov_ck_t (nzl_ok (by omega) (by omega))]
  unfold frc
  by_cases h : x = 0
  · rw [if_pos h, if_pos h, pk_lDiv (by omega) gp (by omega), lN_i]
  · rw [if_neg h, if_neg h, ← zL_n, zL_div (by omega) (by omega) (by omega) (by omega), zL_i]
theorem s214 {z : Int} {b : Nat} (h1 : -2 ^ 30 < z) (h2 : z < 2 ^ 30) (hb : b < 2 ^ 30) : f214 (zI z) (nI b) = some (nI (Nat.gcd z.natAbs b)) := by
  have E : f214_10 (nI b) (nI z.natAbs) = some (nI (Nat.gcd z.natAbs b)) := by
    unfold f214_10
    rw [eu2 31 z.natAbs b 2000 (by omega) (by omega) (by omega) (by omega)]
    rfl
  unfold f214
  by_cases h : 0 ≤ z
  · obtain ⟨n, hn⟩ : ∃ n : Nat, z = (n : Int) := ⟨z.natAbs, by omega⟩
    rw [hn, Int.natAbs_natCast] at E ⊢
    rw [zI_n, if_pos (nI_pos' (by omega)), E]
  · obtain ⟨n, hn⟩ : ∃ n : Nat, z = -(n : Int) := ⟨z.natAbs, by omega⟩
    rw [hn, Int.natAbs_neg, Int.natAbs_natCast] at E ⊢
    rw [zI_neg, if_neg, Int32.neg_neg, E]
    rw [← zI_neg, Int32.le_iff_toInt_le]
    unfold zI
    rw [Int32.toInt_ofInt_of_le (by omega) (by omega)]
    show ¬ (0 : Int) ≤ _
    omega
theorem s213 {z : Int} {b : Nat} (h1 : -2 ^ 30 < z) (h2 : z < 2 ^ 30) (b0 : 0 < b) (hb : b < 2 ^ 30) (x : Int32) : f213 (zI z) (nI b) x = some (frc z b x) := by
  have gp : 0 < Nat.gcd z.natAbs b := Nat.gcd_pos_of_pos_right _ b0
  have gl : Nat.gcd z.natAbs b ≤ b := Nat.le_of_dvd b0 (Nat.gcd_dvd_right _ _)
  unfold f213
  rw [s214 h1 h2 hb, Option.bind_some, ov_ck_t (nz_ok (by omega) (by omega)), ov_ck_t (nz_ok (by omega) (by omega))]
  unfold frc
  by_cases h : x = 0
  · rw [if_pos h, if_pos h, pk_div (by omega) gp (by omega)]
  · rw [if_neg h, if_neg h, ← zI_n, zI_div (by omega) (by omega) (by omega) (by omega)]
-- chances
def chn (n : Nat) : Nat → Nat
  | 0 => 1
  | k + 1 => chn n k * (n - k) / (k + 1)
theorem f137_t : ∀ n, n < 7 → ∀ k, k < 7 → k ≤ n → f137 (nI n) (nI k) = some (lN (chn n k)) := by decide +kernel
theorem f115_x : ∀ x, x < 11 → ∀ k, k < 7 → f115 (nI x) (nI k) = some (lN (x ^ k)) := by decide +kernel
theorem f209_x : ∀ x, x < 11 → ∀ k, k < 7 → f209 (lN x) (nI k) = some (lN (x ^ k)) := by decide +kernel
def sgp (h x m : Nat) : Nat → Nat
  | 0 => 0
  | j + 1 => sgp h x m j + chn h (m + j) * x ^ (m + j) * (10 - x) ^ (h - (m + j))
def sgt (h x m s : Nat) : Nat := if pcn s 6 < m then 0 else x ^ pcn s 6 * (10 - x) ^ (h - pcn s 6)
def sgq (h x m : Nat) : Nat → Nat
  | 0 => 0
  | s + 1 => sgq h x m s + sgt h x m s
theorem sg_t : ∀ h, h < 7 → ∀ x, x < 11 → ∀ m, m < 7 → sgp h x m (h + 1 - m) = sgq h x m (2 ^ h) ∧ sgp h x m (h + 1 - m) < 2 ^ 30 := by decide +kernel
def hvn (P : pl_T) (g : pg_g) : Nat → Nat
  | 0 => 0
  | c + 1 => hvn P g c + (if ldn P g c (pN P) < 10 then 0 else 1)
theorem hvn_le (P : pl_T) (g : pg_g) : ∀ n, hvn P g n ≤ n
  | 0 => Nat.le_refl _
  | c + 1 => by
    have := hvn_le P g c
    unfold hvn
    split <;> omega
section
variable {S : ov_S} {G : ov_L2} {P : pl_T} {a : Nat} {g : pg_g} {p : Nat}
theorem c_gives (h : in_P S G P) (x y z : Int32) : ok1 S G (f136 S x y z) (f221 S x y z) := by
  have R := h.2.1
  have RT := (in_t0 h).2.1
  have hv := h.2.2.1.1
  have he := h.2.2.1.2.1
  have hm := M_t0 S 0
  have h6 := r_N6 R
  have e6 : ∀ w : Int32, f144 w.toInt64 (0 : Int64) (6 : Int64) = some (if (0 : Int32) ≤ w ∧ w ≤ (6 : Int32) then 1 else 0) := fun w => s144 w 0 6
  have e10 : ∀ w : Int32, f144 w.toInt64 (0 : Int64) (10 : Int64) = some (if (0 : Int32) ≤ w ∧ w ≤ (10 : Int32) then 1 else 0) := fun w => s144 w 0 10
  by_cases x0 : x < 0
  · refine o1 h sm0 (-2) ?_ ?_
    · unfold f136
      rw [if_pos x0]
    · unfold f221
      rw [e6, if_neg (fun q => absurd q.1 (Int32.not_le.mpr x0))]
      rfl
  by_cases x6 : (6 : Int32) < x
  · refine o1 h sm0 (-2) ?_ ?_
    · unfold f136
      rw [if_neg x0, if_pos x6]
    · unfold f221
      rw [e6, if_neg (fun q => absurd q.2 (Int32.not_le.mpr x6))]
      rfl
  have xin : (0 : Int32) ≤ x ∧ x ≤ (6 : Int32) := ⟨Int32.not_lt.mp x0, Int32.not_lt.mp x6⟩
  by_cases y0 : y < 0
  · refine o1 h sm0 (-2) ?_ ?_
    · unfold f136
      rw [if_neg x0, if_neg x6, if_pos y0]
    · unfold f221
      rw [e6, if_pos xin, Option.bind_some, if_neg (by decide), e10, if_neg (fun q => absurd q.1 (Int32.not_le.mpr y0))]
      rfl
  by_cases y10 : (10 : Int32) < y
  · refine o1 h sm0 (-2) ?_ ?_
    · unfold f136
      rw [if_neg x0, if_neg x6, if_neg y0, if_neg (Int32.not_le.mpr y10)]
    · unfold f221
      rw [e6, if_pos xin, Option.bind_some, if_neg (by decide), e10, if_neg (fun q => absurd q.2 (Int32.not_le.mpr y10))]
      rfl
  have yin : (0 : Int32) ≤ y ∧ y ≤ (10 : Int32) := ⟨Int32.not_lt.mp y0, Int32.not_lt.mp y10⟩
  obtain ⟨m, hm7, rfl⟩ : ∃ m, m < 7 ∧ x = nI m := by
    rcases pk_ix x (n := 7) (by omega) with q | q | q
    · exact absurd q x0
    · exfalso
      rw [Int32.le_iff_toInt_le, nI_toInt (by omega)] at q
      rw [Int32.lt_iff_toInt_lt] at x6
      have : (6 : Int32).toInt = 6 := by decide
      omega
    · exact q
  obtain ⟨w, hw, rfl⟩ : ∃ w, w < 11 ∧ y = nI w := by
    rcases pk_ix y (n := 11) (by omega) with q | q | q
    · exact absurd q y0
    · exfalso
      rw [Int32.le_iff_toInt_le, nI_toInt (by omega)] at q
      rw [Int32.lt_iff_toInt_lt] at y10
      have : (10 : Int32).toInt = 10 := by decide
      omega
    · exact q
  have hl := hvn_le P (S 55) 6
  obtain ⟨sgA, sgB⟩ := sg_t (hvn P (S 55) 6) (by omega) w hw m hm7
  have b10 : (10 : Nat) ^ hvn P (S 55) 6 ≤ 10 ^ 6 := Nat.pow_le_pow_right (by decide) hl
  have p10 : 0 < (10 : Nat) ^ hvn P (S 55) 6 := Nat.pow_pos (by decide)
  have e10w : (10 : Int32) - nI w = nI (10 - w) := by rw [show (10 : Int32) = nI 10 from rfl, pk_sub (by omega)]
  have c1 : f136 S (nI m) (nI w) z = some (frc (sgp (hvn P (S 55) 6) w m (hvn P (S 55) 6 + 1 - m) : Nat) (10 ^ hvn P (S 55) 6) z) := by
    unfold f136
    rw [if_neg x0, if_neg x6, if_neg y0, if_pos yin.2]
    have L1 : ov_lp (fun s => b136_29 S (nI m) (nI w) z s.1 s.2) 2000 ((0 : Int32), (0 : Int32)) = some (nI (hvn P (S 55) 6)) := by
      refine lp_for (fun c => (nI (hvn P (S 55) c), nI c)) 6 rfl (fun c hc => ?_) ?_ (by omega)
      · show b136_29 S (nI m) (nI w) z (nI (hvn P (S 55) c)) (nI c) = some (.inl (nI (hvn P (S 55) c + (if ldn P (S 55) c (pN P) < 10 then 0 else 1)), nI (c + 1)))
        have ll := ldn_le (g := S 55) R c (pN P) (Nat.le_refl _)
        unfold b136_29 f136_53_29
        rw [if_neg (show ¬ (6 : Int32) ≤ nI c from nle_nI (a := 6) hc (by omega)), s72 R hv he hc, Option.bind_some]
        by_cases q : ldn P (S 55) c (pN P) < 10
        · rw [if_pos (show nI (ldn P (S 55) c (pN P)) < (10 : Int32) from lt_nI (b := 10) q (by omega)), if_pos q, nI_1]
          rfl
        · rw [if_neg (show ¬ nI (ldn P (S 55) c (pN P)) < (10 : Int32) from nlt_nI (b := 10) (by omega) (by omega)), if_neg q, nI_1, nI_1]
      · show b136_29 S (nI m) (nI w) z _ (nI 6) = _
        unfold b136_29
        rw [if_pos (show (6 : Int32) ≤ nI 6 from le_nI (a := 6) (Nat.le_refl _) (by omega))]
    have L2 : ov_lp (fun s => b136_65 S (nI w) z (nI (hvn P (S 55) 6)) s.1 s.2) 2000 ((0 : Int64), nI m) = some (lN (sgp (hvn P (S 55) 6) w m (hvn P (S 55) 6 + 1 - m))) := by
      refine lp_for (fun j => (lN (sgp (hvn P (S 55) 6) w m j), nI (m + j))) (hvn P (S 55) 6 + 1 - m) rfl (fun j hj => ?_) ?_ (by omega)
      · show b136_65 S (nI w) z (nI (hvn P (S 55) 6)) (lN (sgp (hvn P (S 55) 6) w m j)) (nI (m + j)) = some (.inl (lN (sgp (hvn P (S 55) 6) w m j + chn (hvn P (S 55) 6) (m + j) * w ^ (m + j) * (10 - w) ^ (hvn P (S 55) 6 - (m + j))), nI (m + j + 1)))
        unfold b136_65
        rw [if_neg (nlt_nI (by omega) (by omega)), f137_t _ (by omega) _ (by omega) (by omega), Option.bind_some, f115_x w hw _ (by omega), Option.bind_some, e10w, pk_sub (by omega), f115_x _ (by omega) _ (by omega), Option.bind_some, lN_mul, lN_mul, lN_add, nI_1]
      · show b136_65 S (nI w) z (nI (hvn P (S 55) 6)) _ (nI (m + (hvn P (S 55) 6 + 1 - m))) = _
        unfold b136_65
        rw [if_pos (lt_nI (by omega) (by omega))]
    rw [L1, Option.bind_some, L2, Option.bind_some, show (10 : Int32) = nI 10 from rfl, f115_x 10 (by omega) _ (by omega), Option.bind_some, ← zL_n, s119 (by omega) (by omega) p10 (by omega)]
    rfl
  have c2 : f221 S (nI m) (nI w) z = some (frc (sgp (hvn P (S 55) 6) w m (hvn P (S 55) 6 + 1 - m) : Nat) (10 ^ hvn P (S 55) 6) z, ov_up S 42 0 0) := by
    unfold f221
    rw [e6, if_pos xin, Option.bind_some, if_neg (by decide), e10, if_pos yin, Option.bind_some, if_neg (by decide)]
    have L1 : ov_lp (fun s => b221_38 (ov_up S 42 0 (0 : Int32)) (nI m) (nI w) z s.1 s.2) 2000 ((0 : Int32), (0 : Int32)) = some (nI (hvn P (S 55) 6)) := by
      refine lp_for (fun c => (nI (hvn P (S 55) c), nI c)) 6 rfl (fun c hc => ?_) ?_ (by omega)
      · show b221_38 (ov_up S 42 0 (0 : Int32)) (nI m) (nI w) z (nI (hvn P (S 55) c)) (nI c) = some (.inl (nI (hvn P (S 55) c + (if ldn P (S 55) c (pN P) < 10 then 0 else 1)), nI (c + 1)))
        have ll := ldn_le (g := S 55) R c (pN P) (Nat.le_refl _)
        unfold b221_38 f221_67_38
        rw [if_neg (show ¬ (6 : Int32) ≤ nI c from nle_nI (a := 6) hc (by omega)), s183 RT hv hm hc, Option.bind_some]
        by_cases q : ldn P (S 55) c (pN P) < 10
        · rw [if_pos (show nI (ldn P (S 55) c (pN P)) < (10 : Int32) from lt_nI (b := 10) q (by omega)), if_pos q, nI_1, show (0 : Int32) = nI 0 from rfl, nI_add]
        · rw [if_neg (show ¬ nI (ldn P (S 55) c (pN P)) < (10 : Int32) from nlt_nI (b := 10) (by omega) (by omega)), if_neg q, nI_1, nI_1]
      · show b221_38 (ov_up S 42 0 (0 : Int32)) (nI m) (nI w) z _ (nI 6) = _
        unfold b221_38
        rw [if_pos (show (6 : Int32) ≤ nI 6 from le_nI (a := 6) (Nat.le_refl _) (by omega))]
    have p2 : (2 : Nat) ^ hvn P (S 55) 6 ≤ 2 ^ 6 := Nat.pow_le_pow_right (by decide) hl
    have L2 : ov_lp (fun s => b221_82 (ov_up S 42 0 (0 : Int32)) (nI m) (nI w) z (nI (hvn P (S 55) 6)) s.1 s.2) 2000 ((0 : Int32), (0 : Int32)) = some (nI (sgq (hvn P (S 55) 6) w m (2 ^ hvn P (S 55) 6))) := by
      refine lp_for (fun s => (nI (sgq (hvn P (S 55) 6) w m s), nI s)) (2 ^ hvn P (S 55) 6) rfl (fun s hs => ?_) ?_ (by omega)
      · show b221_82 (ov_up S 42 0 (0 : Int32)) (nI m) (nI w) z (nI (hvn P (S 55) 6)) (nI (sgq (hvn P (S 55) 6) w m s)) (nI s) = some (.inl (nI (sgq (hvn P (S 55) 6) w m s + sgt (hvn P (S 55) 6) w m s), nI (s + 1)))
        have eb : ∀ i, hvn P (S 55) 6 ≤ i → s.testBit i = false := fun i hi => Nat.testBit_lt_two_pow (Nat.lt_of_lt_of_le hs (Nat.pow_le_pow_right (by decide) hi))
        have ep : pc s = pcn s 6 := pcn_end (fun i hi => eb i (by omega)) 18 (by omega)
        have pl : pcn s 6 ≤ hvn P (S 55) 6 := by
          rw [pcn_end eb 6 hl]
          exact pcn_le _ _
        unfold b221_82 f221_132_82
        rw [nI_sh1 _ (by omega), if_neg (nle_nI hs (by omega)), s191 (by omega), Option.bind_some, ep, nI_1]
        unfold sgt
        by_cases q : pcn s 6 < m
        · rw [if_pos (lt_nI q (by omega)), if_pos q, show (0 : Int32) = nI 0 from rfl, nI_add]
        · rw [if_neg (nlt_nI (by omega) (by omega)), if_neg q, nI_l (by omega), f209_x w hw _ (by omega), Option.bind_some, e10w, nI_l (by omega), pk_sub pl, f209_x _ (by omega) _ (by omega), Option.bind_some, lN_mul, lN_i, nI_add]
      · show b221_82 (ov_up S 42 0 (0 : Int32)) (nI m) (nI w) z (nI (hvn P (S 55) 6)) _ (nI (2 ^ hvn P (S 55) 6)) = _
        unfold b221_82
        rw [nI_sh1 _ (by omega), if_pos (le_nI (Nat.le_refl _) (by omega))]
    rw [L1, Option.bind_some, L2, Option.bind_some, show (10 : Int64) = lN 10 from rfl, f209_x 10 (by omega) _ (by omega), Option.bind_some, lN_i, ← sgA, ← zI_n, s213 (by omega) (by omega) p10 (by omega)]
    rfl
  exact o1 h sm0 _ c1 c2
end
