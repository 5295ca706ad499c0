-- COUNTS OF BITS; WHO SEES WHOM
def pcn (m : Nat) : Nat → Nat
  | 0 => 0
  | k + 1 => pcn m k + (if m.testBit k then 1 else 0)
/-- bits of a mask of 18 -/
def pc (m : Nat) : Nat := pcn m 18
theorem pcn_le (m : Nat) : ∀ k, pcn m k ≤ k
  | 0 => Nat.le_refl _
  | k + 1 => by
    have := pcn_le m k
    unfold pcn
    split <;> omega
theorem pc_le (m : Nat) : pc m ≤ 18 := pcn_le m 18
theorem s191 {m : Nat} (hm : m < 2 ^ 18) : f191 (nI m) = some (nI (pc m)) := by
  unfold f191
  refine lp_bind (fun k => (nI (pcn m k), nI k)) 18 (e := nI (pcn m 18)) rfl (fun k hk => ?_) ?_ (by omega) rfl
  · show b191_4 (nI m) (nI (pcn m k)) (nI k) = some (.inl (nI (pcn m k + (if m.testBit k then 1 else 0)), nI (k + 1)))
    unfold b191_4
    rw [show (18 : Int32) = nI 18 from rfl, if_neg (nle_nI hk (by omega)), nI_bit (by omega) (by omega), nI_add, nI_1]
  · show b191_4 (nI m) (nI (pcn m 18)) (nI 18) = _
    unfold b191_4
    rw [show (18 : Int32) = nI 18 from rfl, if_pos (le_nI (Nat.le_refl _) (by omega))]
-- the same by the bits side by side
def bc1 (v : Nat) : Nat := v - ((v / 2 ^ 1) &&& 1431655765)
def bc2 (v : Nat) : Nat := (v &&& 858993459) + ((v / 2 ^ 2) &&& 858993459)
def bc3 (v : Nat) : Nat := (v + v / 2 ^ 4) &&& 252645135
def bc5 (v : Nat) : Nat := (v + v / 2 ^ 8 + (v + v / 2 ^ 8) / 2 ^ 16) &&& 63
theorem ushN {n : Nat} (hn : n < 2 ^ 32) (c : Nat) (hc : (((nI c).toUInt32 &&& Int32.toUInt32 31).toBitVec % 32).toNat = c) : ((nI n).toUInt32 >>> ((nI c).toUInt32 &&& Int32.toUInt32 31)).toInt32 = nI (n / 2 ^ c) := pk_ushrN hn _ c hc
theorem and_lt {a b n : Nat} (h : b < n) : a &&& b < n := Nat.lt_of_le_of_lt Nat.and_le_right h
theorem s69a {m : Nat} (hm : m < 2 ^ 18) : f69 (nI m) = some (nI (bc5 (bc3 (bc2 (bc1 m))))) := by
  have a1 : (m / 2 ^ 1) &&& 1431655765 ≤ m := Nat.le_trans Nat.and_le_left (Nat.div_le_self _ _)
  have l1 : bc1 m < 2 ^ 18 := by unfold bc1; omega
  have a2 : (bc1 m) &&& 858993459 < 2 ^ 18 := Nat.lt_of_le_of_lt Nat.and_le_left l1
  have a3 : (bc1 m / 2 ^ 2) &&& 858993459 < 2 ^ 18 := Nat.lt_of_le_of_lt Nat.and_le_left (by omega)
  have l2 : bc2 (bc1 m) < 2 ^ 19 := by unfold bc2; omega
  have l3 : bc3 (bc2 (bc1 m)) < 2 ^ 20 := Nat.lt_of_le_of_lt Nat.and_le_left (by omega)
  have e1 : nI m - (((nI m).toUInt32 >>> (((1 : Int32)).toUInt32 &&& Int32.toUInt32 31)).toInt32 &&& (1431655765 : Int32)) = nI (bc1 m) := by
    rw [show (1 : Int32) = nI 1 from rfl, ushN (by omega) 1 (by decide), show (1431655765 : Int32) = nI 1431655765 from rfl, nI_and, pk_sub a1]
    rfl
  have e2 : (nI (bc1 m) &&& (858993459 : Int32)) + (((nI (bc1 m)).toUInt32 >>> (((2 : Int32)).toUInt32 &&& Int32.toUInt32 31)).toInt32 &&& (858993459 : Int32)) = nI (bc2 (bc1 m)) := by
    rw [show (2 : Int32) = nI 2 from rfl, ushN (by omega) 2 (by decide), show (858993459 : Int32) = nI 858993459 from rfl, nI_and, nI_and, nI_add]
    rfl
  have e3 : (nI (bc2 (bc1 m)) + ((nI (bc2 (bc1 m))).toUInt32 >>> (((4 : Int32)).toUInt32 &&& Int32.toUInt32 31)).toInt32) &&& (252645135 : Int32) = nI (bc3 (bc2 (bc1 m))) := by
    rw [show (4 : Int32) = nI 4 from rfl, ushN (by omega) 4 (by decide), show (252645135 : Int32) = nI 252645135 from rfl, nI_add, nI_and]
    rfl
  unfold f69
  simp only [e1, e2, e3]
  generalize bc3 (bc2 (bc1 m)) = v at l3
  rw [show (8 : Int32) = nI 8 from rfl, ushN (by omega) 8 (by decide), nI_add, show (16 : Int32) = nI 16 from rfl, ushN (by omega) 16 (by decide), nI_add, show (63 : Int32) = nI 63 from rfl, nI_and]
  rfl
/-- masks of bytes, byte by byte -/
theorem and_by (a b x y : Nat) (ha : a < 256) (hx : x < 256) : (a + 256 * b) &&& (x + 256 * y) = (a &&& x) + 256 * (b &&& y) := by
  have m1 : ∀ p q : Nat, p < 256 → (p + 256 * q) % 2 ^ 8 = p := fun p q h => by omega
  have m2 : ∀ p q : Nat, p < 256 → (p + 256 * q) / 2 ^ 8 = q := fun p q h => by omega
  have r1 : ((a + 256 * b) &&& (x + 256 * y)) % 2 ^ 8 = a &&& x := by rw [Nat.and_mod_two_pow, m1 _ _ ha, m1 _ _ hx]
  have r2 : ((a + 256 * b) &&& (x + 256 * y)) / 2 ^ 8 = b &&& y := by rw [Nat.and_div_two_pow, m2 _ _ ha, m2 _ _ hx]
  omega
