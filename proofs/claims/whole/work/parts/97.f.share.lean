-- SHARES: a sum over all sets of parts is one over those who are on, many times over
def fc : Nat → Nat
  | 0 => 1
  | n + 1 => (n + 1) * fc n
theorem f122_t : ∀ n, n < 8 → f122 (nI n) = some (lN (fc n)) := by decide +kernel
theorem f212_t : ∀ n, n < 8 → f212 (nI n) = some (nI (fc n)) := by decide +kernel
theorem fc_b : ∀ n, n < 7 → 0 < fc n ∧ fc n ≤ 720 := by decide
def Vs (F : Nat → Int) : Nat → Nat → Int
  | 0, m => F m
  | j + 1, m => Vs F j m + Vs F j (m ||| 2 ^ j)
def sumI (F : Nat → Int) : Nat → Int
  | 0 => 0
  | s + 1 => sumI F s + F s
theorem sumI_add (F : Nat → Int) (a : Nat) : ∀ b, sumI F (a + b) = sumI F a + sumI (fun s => F (a + s)) b
  | 0 => by
    show sumI F a = sumI F a + 0
    omega
  | b + 1 => by
    show sumI F (a + b) + F (a + b) = sumI F a + (sumI (fun s => F (a + s)) b + F (a + b))
    rw [sumI_add F a b]
    omega
theorem sumI_ext {F G : Nat → Int} : ∀ n, (∀ s, s < n → F s = G s) → sumI F n = sumI G n
  | 0, _ => rfl
  | n + 1, h => by
    show sumI F n + F n = sumI G n + G n
    rw [sumI_ext n (fun s hs => h s (by omega)), h n (by omega)]
theorem sumI_0 {F : Nat → Int} {a : Nat} : ∀ b, (∀ s, a ≤ s → s < a + b → F s = 0) → sumI F (a + b) = sumI F a
  | 0, _ => rfl
  | b + 1, h => by
    show sumI F (a + b) + F (a + b) = sumI F a
    rw [sumI_0 b (fun s h1 h2 => h s h1 (by omega)), h (a + b) (by omega) (by omega)]
    omega
theorem Vs_sum (F : Nat → Int) : ∀ j q, sumI (fun s => F (2 ^ j * q + s)) (2 ^ j) = Vs F j (2 ^ j * q)
  | 0, q => by
    show (0 : Int) + F (2 ^ 0 * q + 0) = F (2 ^ 0 * q)
    rw [Nat.add_zero]
    omega
  | j + 1, q => by
    have e1 : 2 ^ (j + 1) * q = 2 ^ j * (2 * q) := by rw [Nat.pow_succ, Nat.mul_assoc]
    have e2 : 2 ^ (j + 1) * q ||| 2 ^ j = 2 ^ j * (2 * q + 1) := by
      rw [← Nat.two_pow_add_eq_or_of_lt (Nat.pow_lt_pow_right (by omega) (by omega)) q, e1, Nat.mul_add, Nat.mul_one]
    show _ = Vs F j (2 ^ (j + 1) * q) + Vs F j (2 ^ (j + 1) * q ||| 2 ^ j)
    rw [e2, ← Vs_sum F j (2 * q + 1), e1, ← Vs_sum F j (2 * q), show 2 ^ (j + 1) = 2 ^ j + 2 ^ j by rw [Nat.pow_succ]; omega, sumI_add]
    congr 1
    refine sumI_ext _ (fun s _ => ?_)
    show F (2 ^ j * (2 * q) + (2 ^ j + s)) = F (2 ^ j * (2 * q + 1) + s)
    congr 1
    rw [Nat.mul_add, Nat.mul_one]
    omega
theorem Vs_0 (F : Nat → Int) (j : Nat) : sumI F (2 ^ j) = Vs F j 0 := by
  have := Vs_sum F j 0
  rw [Nat.mul_zero] at this
  rw [← this]
  exact sumI_ext _ (fun s _ => by rw [Nat.zero_add])
theorem pcn_or {m i : Nat} (h : m.testBit i = false) : ∀ n, pcn (m ||| 2 ^ i) n = pcn m n + (if i < n then 1 else 0)
  | 0 => by rw [if_neg (by omega)]; rfl
  | n + 1 => by
    show pcn (m ||| 2 ^ i) n + (if (m ||| 2 ^ i).testBit n then 1 else 0) = (pcn m n + (if m.testBit n then 1 else 0)) + (if i < n + 1 then 1 else 0)
    rw [pcn_or h n, Nat.testBit_or, tb_pow]
    by_cases e : i = n
    · rw [← e, h, decide_eq_true rfl]
      simp
    · rw [decide_eq_false e, Bool.or_false]
      by_cases z : i < n
      · rw [if_pos z, if_pos (show i < n + 1 by omega)]
        omega
      · rw [if_neg z, if_neg (show ¬ i < n + 1 by omega)]
        omega
theorem pc_or {m i : Nat} (h : m.testBit i = false) (hi : i < 18) : pc (m ||| 2 ^ i) = pc m + 1 := by
  unfold pc
  rw [pcn_or h, if_pos hi]
section
variable {k on : Nat} {M : Nat → Int}
def wF (k on : Nat) (M : Nat → Int) (n s : Nat) : Int := if s.testBit k = true then 0 else ((fc (pc s) * fc (n - 1 - pc s) : Nat) : Int) * M (s &&& on)
def wG (k on : Nat) (M : Nat → Int) (n s : Nat) : Int := if s.testBit k = true ∨ cm s on ≠ 0 then 0 else ((fc (pc s) * fc (n - 1 - pc s) : Nat) : Int) * M s
def nb (k j : Nat) : Nat := if k < j then j - 1 else j
def dm (k on : Nat) : Nat → Nat
  | 0 => 0
  | j + 1 => dm k on j + (if j ≠ k ∧ on.testBit j = false then 1 else 0)
def prn : Nat → Nat → Nat
  | _, 0 => 1
  | n, d + 1 => n * prn (n - 1) d
theorem V0F (n : Nat) : ∀ j m, m.testBit k = true → Vs (wF k on M n) j m = 0
  | 0, m, h => if_pos h
  | j + 1, m, h => by
    show Vs (wF k on M n) j m + Vs (wF k on M n) j (m ||| 2 ^ j) = 0
    rw [V0F n j m h, V0F n j _ (by rw [Nat.testBit_or, h, Bool.true_or])]
    rfl
theorem V0G (n : Nat) : ∀ j m, (m.testBit k = true ∨ ∃ i, i < 32 ∧ m.testBit i = true ∧ on.testBit i = false) → m < 2 ^ 32 → j < 32 → Vs (wG k on M n) j m = 0
  | 0, m, h, hm, hj => by
    refine if_pos ?_
    rcases h with h | ⟨i, i1, i2, i3⟩
    · exact .inl h
    · right
      intro q
      have := tb_cm (m := m) (b := on) (i := i) hm
      rw [q, i2, i3, Nat.zero_testBit] at this
      cases this
  | j + 1, m, h, hm, hj => by
    show Vs (wG k on M n) j m + Vs (wG k on M n) j (m ||| 2 ^ j) = 0
    rw [V0G n j m h hm (by omega), V0G n j _ ?_ (Nat.or_lt_two_pow hm (Nat.pow_lt_pow_right (by omega) (by omega))) (by omega)]
    · rfl
    · rcases h with h | ⟨i, i1, i2, i3⟩
      · exact .inl (by rw [Nat.testBit_or, h, Bool.true_or])
      · exact .inr ⟨i, i1, by rw [Nat.testBit_or, i2, Bool.true_or], i3⟩
theorem or_cl {m i t : Nat} (h : m.testBit t = false) (ne : i ≠ t) : (m ||| 2 ^ i).testBit t = false := by
  rw [Nat.testBit_or, h, tb_pow, decide_eq_false ne]
  rfl
theorem or_sw (m i j : Nat) : (m ||| 2 ^ i) ||| 2 ^ j = (m ||| 2 ^ j) ||| 2 ^ i := by
  rw [Nat.or_assoc, Nat.or_comm (2 ^ i), Nat.or_assoc]
theorem wD {i n m : Nat} (io : on.testBit i = false) (ik : i ≠ k) (i18 : i < 18) (mi : m.testBit i = false) (mk' : m.testBit k = false) (hp : pc m + 2 ≤ n) : wF k on M n m + wF k on M n (m ||| 2 ^ i) = (n : Int) * wF k on M (n - 1) m := by
  have ea : (m ||| 2 ^ i) &&& on = m &&& on := by
    apply Nat.eq_of_testBit_eq
    intro t
    rw [Nat.testBit_and, Nat.testBit_and, Nat.testBit_or, tb_pow]
    by_cases e : i = t
    · rw [← e, io, Bool.and_false, Bool.and_false]
    · rw [decide_eq_false e, Bool.or_false]
  unfold wF
  rw [if_neg (by rw [mk']; decide), if_neg (by rw [or_cl mk' ik]; decide), if_neg (by rw [mk']; decide), ea, pc_or mi i18]
  obtain ⟨q, hq⟩ : ∃ q, n = pc m + 2 + q := ⟨n - (pc m + 2), by omega⟩
  rw [show n - 1 - pc m = q + 1 by omega, show n - 1 - (pc m + 1) = q by omega, show n - 1 - 1 - pc m = q by omega, ← Int.add_mul, ← Int.mul_assoc]
  congr 1
  rw [← Int.natCast_add, ← Int.natCast_mul, hq]
  congr 1
  show fc (pc m) * ((q + 1) * fc q) + (pc m + 1) * fc (pc m) * fc q = (pc m + 2 + q) * (fc (pc m) * fc q)
  generalize fc (pc m) = x
  generalize fc q = y
  generalize pc m = p
  have e1 : x * ((q + 1) * y) = (q + 1) * (x * y) := by rw [← Nat.mul_assoc, Nat.mul_comm x (q + 1), Nat.mul_assoc]
  have e2 : (p + 1) * x * y = (p + 1) * (x * y) := Nat.mul_assoc _ _ _
  rw [e1, e2, ← Nat.add_mul]
  congr 1
  omega
theorem VD {i n : Nat} (io : on.testBit i = false) (ik : i ≠ k) (i18 : i < 18) : ∀ j m, j ≤ i → m.testBit i = false → m.testBit k = false → (∀ t, t < j → m.testBit t = false) → pc m + nb k j + 2 ≤ n → Vs (wF k on M n) j m + Vs (wF k on M n) j (m ||| 2 ^ i) = (n : Int) * Vs (wF k on M (n - 1)) j m
  | 0, m, hj, mi, mk', mt, hp => wD io ik i18 mi mk' (by unfold nb at hp; rw [if_neg (by omega)] at hp; omega)
  | j + 1, m, hj, mi, mk', mt, hp => by
    show (Vs (wF k on M n) j m + Vs (wF k on M n) j (m ||| 2 ^ j)) + (Vs (wF k on M n) j (m ||| 2 ^ i) + Vs (wF k on M n) j (m ||| 2 ^ i ||| 2 ^ j)) = (n : Int) * (Vs (wF k on M (n - 1)) j m + Vs (wF k on M (n - 1)) j (m ||| 2 ^ j))
    by_cases e : j = k
    · have hp' : pc m + nb k j + 2 ≤ n := by
        unfold nb at hp ⊢
        rw [if_pos (by omega)] at hp
        rw [if_neg (by omega)]
        omega
      have b1 : (m ||| 2 ^ j).testBit k = true := by rw [Nat.testBit_or, tb_pow, decide_eq_true e, Bool.or_true]
      have b2 : (m ||| 2 ^ i ||| 2 ^ j).testBit k = true := by rw [Nat.testBit_or, tb_pow, decide_eq_true e, Bool.or_true]
      rw [V0F n j _ b1, V0F n j _ b2, V0F (n - 1) j _ b1, Int.add_zero, Int.add_zero, Int.add_zero]
      exact VD io ik i18 j m (by omega) mi mk' (fun t ht => mt t (by omega)) hp'
    · have hp' : pc m + nb k j + 3 ≤ n := by
        unfold nb at hp ⊢
        by_cases z : k < j
        · rw [if_pos z]
          rw [if_pos (by omega)] at hp
          omega
        · rw [if_neg z]
          rw [if_neg (by omega)] at hp
          omega
      have h1 := VD io ik i18 j m (n := n) (by omega) mi mk' (fun t ht => mt t (by omega)) (by omega)
      have h2 := VD io ik i18 j (m ||| 2 ^ j) (n := n) (by omega) (or_cl mi (by omega)) (or_cl mk' e) (fun t ht => or_cl (mt t (by omega)) (by omega)) (by rw [pc_or (mt j (by omega)) (by omega)]; omega)
      rw [or_sw, Int.mul_add, ← h1, ← h2]
      omega
theorem VR (kb : on.testBit k = true) : ∀ j n m, j ≤ 18 → (∀ t, t < 32 → m.testBit t = true → on.testBit t = true) → m < 2 ^ 32 → m.testBit k = false → (∀ t, t < j → m.testBit t = false) → pc m + nb k j + 1 ≤ n → Vs (wF k on M n) j m = (prn n (dm k on j) : Int) * Vs (wG k on M (n - dm k on j)) j m
  | 0, n, m, hj, ms, hm, mk', mt, hp => by
    show wF k on M n m = ((1 : Nat) : Int) * wG k on M (n - 0) m
    have e0 : cm m on = 0 := by
      apply Nat.eq_of_testBit_eq
      intro t
      rw [tb_cm hm, Nat.zero_testBit]
      by_cases t32 : t < 32
      · cases z : m.testBit t
        · rfl
        · rw [ms t t32 z]
          rfl
      · rw [Nat.testBit_lt_two_pow (Nat.lt_of_lt_of_le hm (Nat.pow_le_pow_right (by omega) (by omega)))]
        rfl
    have ea : m &&& on = m := by
      apply Nat.eq_of_testBit_eq
      intro t
      rw [Nat.testBit_and]
      by_cases t32 : t < 32
      · cases z : m.testBit t
        · rfl
        · rw [ms t t32 z]
          rfl
      · rw [Nat.testBit_lt_two_pow (Nat.lt_of_lt_of_le hm (Nat.pow_le_pow_right (by omega) (by omega)))]
        rfl
    unfold wF wG
    rw [if_neg (by rw [mk']; decide), if_neg (fun q => q.elim (fun z => by rw [mk'] at z; cases z) (fun z => z e0)), ea]
    show _ = (1 : Int) * _
    rw [Int.one_mul]
    rfl
  | j + 1, n, m, hj, ms, hm, mk', mt, hp => by
    have hm2 : m ||| 2 ^ j < 2 ^ 32 := Nat.or_lt_two_pow hm (Nat.pow_lt_pow_right (by omega) (by omega))
    show Vs (wF k on M n) j m + Vs (wF k on M n) j (m ||| 2 ^ j) = (prn n (dm k on j + (if j ≠ k ∧ on.testBit j = false then 1 else 0)) : Int) * (Vs (wG k on M (n - (dm k on j + (if j ≠ k ∧ on.testBit j = false then 1 else 0)))) j m + Vs (wG k on M (n - (dm k on j + (if j ≠ k ∧ on.testBit j = false then 1 else 0)))) j (m ||| 2 ^ j))
    by_cases e : j = k
    · have hp' : pc m + nb k j + 1 ≤ n := by
        unfold nb at hp ⊢
        rw [if_pos (by omega)] at hp
        rw [if_neg (by omega)]
        omega
      have b1 : (m ||| 2 ^ j).testBit k = true := by rw [Nat.testBit_or, tb_pow, decide_eq_true e, Bool.or_true]
      rw [if_neg (fun q => q.1 e), Nat.add_zero, V0F n j _ b1, V0G _ j _ (.inl b1) hm2 (by omega), Int.add_zero, Int.add_zero]
      exact VR kb j n m (by omega) ms hm mk' (fun t ht => mt t (by omega)) hp'
    · have hp' : pc m + nb k j + 2 ≤ n := by
        unfold nb at hp ⊢
        by_cases z : k < j
        · rw [if_pos z]
          rw [if_pos (by omega)] at hp
          omega
        · rw [if_neg z]
          rw [if_neg (by omega)] at hp
          omega
      cases o : on.testBit j
      · rw [if_pos ⟨e, rfl⟩, VD o e (by omega) j m (Nat.le_refl _) (mt j (by omega)) mk' (fun t ht => mt t (by omega)) hp', VR kb j (n - 1) m (by omega) ms hm mk' (fun t ht => mt t (by omega)) (by omega), V0G _ j _ (.inr ⟨j, by omega, by rw [Nat.testBit_or, tb_pow, decide_eq_true rfl, Bool.or_true], o⟩) hm2 (by omega), Int.add_zero, ← Int.mul_assoc, ← Int.natCast_mul, show n - (dm k on j + 1) = n - 1 - dm k on j by omega]
        rfl
      · rw [if_neg (fun q => Bool.noConfusion q.2), Nat.add_zero, Int.mul_add]
        rw [VR kb j n m (by omega) ms hm mk' (fun t ht => mt t (by omega)) (by omega), VR kb j n (m ||| 2 ^ j) (by omega) (fun t t32 q => by
          rw [Nat.testBit_or, tb_pow, Bool.or_eq_true, decide_eq_true_eq] at q
          rcases q with q | q
          · exact ms t t32 q
          · rw [← q]
            exact o) hm2 (or_cl mk' e) (fun t ht => or_cl (mt t (by omega)) (by omega)) (by rw [pc_or (mt j (by omega)) (by omega)]; omega)]
theorem prn_fc : ∀ d n, d ≤ n → prn n d * fc (n - d) = fc n
  | 0, n, _ => by
    show 1 * fc (n - 0) = fc n
    rw [Nat.one_mul, Nat.sub_zero]
  | d + 1, n, h => by
    obtain ⟨q, rfl⟩ : ∃ q, n = q + 1 := ⟨n - 1, by omega⟩
    show (q + 1) * prn (q + 1 - 1) d * fc (q + 1 - (d + 1)) = (q + 1) * fc q
    rw [Nat.mul_assoc, show q + 1 - 1 = q by omega, show q + 1 - (d + 1) = q - d by omega, prn_fc d q (by omega)]
theorem pc_dm (kb : on.testBit k = true) : ∀ j, pcn on j + dm k on j = j
  | 0 => rfl
  | j + 1 => by
    have := pc_dm kb j
    show (pcn on j + (if on.testBit j then 1 else 0)) + (dm k on j + (if j ≠ k ∧ on.testBit j = false then 1 else 0)) = j + 1
    cases o : on.testBit j
    · rw [if_pos (show j ≠ k ∧ false = false from ⟨fun q => (by rw [q, kb] at o; exact Bool.noConfusion o), rfl⟩), if_neg (by decide)]
      omega
    · rw [if_neg (show ¬ (j ≠ k ∧ true = false) from fun q => Bool.noConfusion q.2), if_pos rfl]
      omega
end
theorem frc_sc {z : Int} {B c : Nat} (c0 : 0 < c) (B0 : 0 < B) (x : Int32) : frc (z * (c : Int)) (B * c) x = frc z B x := by
  have g : Nat.gcd (z * (c : Int)).natAbs (B * c) = Nat.gcd z.natAbs B * c := by
    rw [Int.natAbs_mul, Int.natAbs_natCast, Nat.gcd_mul_right]
  have gp : 0 < Nat.gcd z.natAbs B := Nat.gcd_pos_of_pos_right _ B0
  unfold frc
  rw [g]
  by_cases h : x = 0
  · rw [if_pos h, if_pos h, Nat.mul_div_mul_right _ _ c0]
  · rw [if_neg h, if_neg h]
    congr 1
    rcases Int.le_total 0 z with hz | hz
    · obtain ⟨n, hn⟩ : ∃ n : Nat, z = (n : Int) := ⟨z.natAbs, by omega⟩
      rw [hn, Int.natAbs_natCast, ← Int.natCast_mul, ← Int.ofNat_tdiv, ← Int.ofNat_tdiv, Nat.mul_div_mul_right _ _ c0]
    · obtain ⟨n, hn⟩ : ∃ n : Nat, z = -(n : Int) := ⟨z.natAbs, by omega⟩
      rw [hn, Int.natAbs_neg, Int.natAbs_natCast, Int.neg_mul, ← Int.natCast_mul, Int.neg_tdiv, Int.neg_tdiv, ← Int.ofNat_tdiv, ← Int.ofNat_tdiv, Nat.mul_div_mul_right _ _ c0]
theorem frc_0 {B : Nat} (B0 : 0 < B) (x : Int32) : frc 0 B x = frc 0 1 x := by
  have := frc_sc (z := 0) (B := 1) (c := B) B0 (by decide) x
  rw [Int.zero_mul, Nat.one_mul] at this
  exact this
theorem sumI_b {F : Nat → Int} {K : Nat} : ∀ n, (∀ s, s < n → (F s).natAbs ≤ K) → (sumI F n).natAbs ≤ K * n
  | 0, _ => by
    show (0 : Int).natAbs ≤ _
    exact Nat.zero_le _
  | n + 1, h => by
    have h1 := sumI_b (F := F) (K := K) n (fun s hs => h s (by omega))
    have h2 := h n (by omega)
    have h3 : (sumI F n + F n).natAbs ≤ (sumI F n).natAbs + (F n).natAbs := Int.natAbs_add_le _ _
    show (sumI F n + F n).natAbs ≤ K * (n + 1)
    rw [Nat.mul_add, Nat.mul_one]
    omega
