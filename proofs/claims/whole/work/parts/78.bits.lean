-- THE COUNT OF BITS SIDE BY SIDE IS THE COUNT
def u1 (a : Nat) : Nat := a - ((a / 2 ^ 1) &&& 85)
def u2 (a : Nat) : Nat := (a &&& 51) + ((a / 2 ^ 2) &&& 51)
def u3 (a : Nat) : Nat := (a + a / 2 ^ 4) &&& 15
def v1 (M v : Nat) : Nat := v - ((v / 2 ^ 1) &&& M)
def v2 (M v : Nat) : Nat := (v &&& M) + ((v / 2 ^ 2) &&& M)
def v3 (M v : Nat) : Nat := (v + v / 2 ^ 4) &&& M
theorem u1_t : ∀ a, a < 256 → ∀ t, t < 2 → (a / 2 ^ 1 + 128 * t) &&& 85 = (a / 2 ^ 1) &&& 85 := by decide +kernel
theorem u2_t : ∀ a, a < 256 → ∀ t, t < 4 → (a / 2 ^ 2 + 64 * t) &&& 51 = (a / 2 ^ 2) &&& 51 := by decide +kernel
theorem u3_t : ∀ a, a < 69 → ∀ t, t < 5 → (a + a / 2 ^ 4 + 16 * t) &&& 15 = (a + a / 2 ^ 4) &&& 15 := by decide +kernel
theorem u_all : ∀ a, a < 256 → u1 a < 256 ∧ u2 (u1 a) < 69 ∧ u2 (u1 a) % 16 < 5 ∧ u3 (u2 (u1 a)) = pcn a 8 := by decide +kernel
theorem v1_s (M a q : Nat) (ha : a < 256) : v1 (85 + 256 * M) (a + 256 * q) = u1 a + 256 * v1 M q := by
  have e : (a + 256 * q) / 2 ^ 1 = (a / 2 ^ 1 + 128 * (q % 2)) + 256 * (q / 2 ^ 1) := by omega
  have l1 : (a / 2 ^ 1) &&& 85 ≤ a := Nat.le_trans Nat.and_le_left (Nat.div_le_self _ _)
  have l2 : (q / 2 ^ 1) &&& M ≤ q := Nat.le_trans Nat.and_le_left (Nat.div_le_self _ _)
  unfold v1 u1
  rw [e, and_by _ _ _ _ (by omega) (by omega), u1_t a ha _ (by omega)]
  omega
theorem v2_s (M a q : Nat) (ha : a < 256) : v2 (51 + 256 * M) (a + 256 * q) = u2 a + 256 * v2 M q := by
  have e : (a + 256 * q) / 2 ^ 2 = (a / 2 ^ 2 + 64 * (q % 4)) + 256 * (q / 2 ^ 2) := by omega
  unfold v2 u2
  rw [e, and_by _ _ _ _ (by omega) (by omega), and_by _ _ _ _ (by omega) (by omega), u2_t a ha _ (by omega)]
  omega
theorem v3_s (M a q : Nat) (ha : a < 69) (hq : q % 16 < 5) : v3 (15 + 256 * M) (a + 256 * q) = u3 a + 256 * v3 M q := by
  have e : (a + 256 * q) + (a + 256 * q) / 2 ^ 4 = (a + a / 2 ^ 4 + 16 * (q % 16)) + 256 * (q + q / 2 ^ 4) := by omega
  unfold v3 u3
  rw [e, and_by _ _ _ _ (by omega) (by omega), u3_t a ha _ (by omega)]
theorem v_c : ∀ c, c < 4 → v1 21845 c = u1 c ∧ v2 13107 (u1 c) = u2 (u1 c) ∧ v3 3855 (u2 (u1 c)) = u3 (u2 (u1 c)) ∧ pcn c 8 = pcn c 2 := by decide +kernel
theorem pcn_ex {m m' n : Nat} (h : ∀ i, i < n → m.testBit i = m'.testBit i) : pcn m n = pcn m' n := by
  induction n with
  | zero => rfl
  | succ n ih =>
    unfold pcn
    rw [ih (fun i hi => h i (by omega)), h n (by omega)]
theorem pcn_hi (a q : Nat) (ha : a < 256) : ∀ j, pcn (a + 256 * q) (8 + j) = pcn a 8 + pcn q j
  | 0 => pcn_ex fun i hi => by
    have e : a = (a + 256 * q) % 2 ^ 8 := by omega
    conv => rhs; rw [e]
    rw [Nat.testBit_mod_two_pow, decide_eq_true hi, Bool.true_and]
  | j + 1 => by
    have e : q = (a + 256 * q) / 2 ^ 8 := by omega
    have t : q.testBit j = (a + 256 * q).testBit (8 + j) := by
      conv => lhs; rw [e]
      rw [Nat.testBit_div_two_pow]
      congr 1
      omega
    show pcn (a + 256 * q) (8 + j) + (if (a + 256 * q).testBit (8 + j) then 1 else 0) = pcn a 8 + (pcn q j + (if q.testBit j then 1 else 0))
    rw [pcn_hi a q ha j, t]
    omega
theorem bc_pc {m : Nat} (hm : m < 2 ^ 18) : bc5 (bc3 (bc2 (bc1 m))) = pc m := by
  obtain ⟨a, b, c, ha, hb, hc, rfl⟩ : ∃ a b c, a < 256 ∧ b < 256 ∧ c < 4 ∧ m = a + 256 * (b + 256 * c) := ⟨m % 256, m / 256 % 256, m / 65536, by omega, by omega, by omega, by omega⟩
  obtain ⟨a1, a2, a3, a4⟩ := u_all a ha
  obtain ⟨b1, b2, b3, b4⟩ := u_all b hb
  obtain ⟨c1, c2, c3, c4⟩ := u_all c (by omega)
  obtain ⟨d1, d2, d3, d4⟩ := v_c c hc
  have e1 : bc1 (a + 256 * (b + 256 * c)) = u1 a + 256 * (u1 b + 256 * u1 c) := by
    show v1 (85 + 256 * (85 + 256 * 21845)) _ = _
    rw [v1_s _ _ _ ha, v1_s _ _ _ hb, d1]
  have e2 : bc2 (u1 a + 256 * (u1 b + 256 * u1 c)) = u2 (u1 a) + 256 * (u2 (u1 b) + 256 * u2 (u1 c)) := by
    show v2 (51 + 256 * (51 + 256 * 13107)) _ = _
    rw [v2_s _ _ _ a1, v2_s _ _ _ b1, d2]
  have e3 : bc3 (u2 (u1 a) + 256 * (u2 (u1 b) + 256 * u2 (u1 c))) = u3 (u2 (u1 a)) + 256 * (u3 (u2 (u1 b)) + 256 * u3 (u2 (u1 c))) := by
    show v3 (15 + 256 * (15 + 256 * 3855)) _ = _
    rw [v3_s _ _ _ a2 (by omega), v3_s _ _ _ b2 (by omega), d3]
  rw [e1, e2, e3, a4, b4, c4]
  have p : pc (a + 256 * (b + 256 * c)) = pcn a 8 + (pcn b 8 + pcn c 8) := by
    show pcn _ (8 + 10) = _
    rw [pcn_hi a _ ha 10]
    show _ + pcn _ (8 + 2) = _
    rw [pcn_hi b _ hb 2, d4]
  rw [p]
  have l1 := pcn_le a 8
  have l2 := pcn_le b 8
  have l3 := pcn_le c 8
  generalize pcn a 8 = x at *
  generalize pcn b 8 = y at *
  generalize pcn c 8 = z at *
  unfold bc5
  have f1 : (x + 256 * (y + 256 * z)) / 2 ^ 8 = y + 256 * z := by omega
  rw [f1]
  have f2 : (x + 256 * (y + 256 * z) + (y + 256 * z)) / 2 ^ 16 = z := by omega
  rw [f2]
  show _ &&& (2 ^ 6 - 1) = _
  rw [Nat.and_two_pow_sub_one_eq_mod]
  omega
theorem s69 {m : Nat} (hm : m < 2 ^ 18) : f69 (nI m) = some (nI (pc m)) := by rw [s69a hm, bc_pc hm]
