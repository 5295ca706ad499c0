section
variable {S : ov_S} {P : pl_T} {a : Nat} {g : pg_g} {p : Nat}
theorem gm_tb (h : pl_R S P) {k : Nat} (hk : k < pN P) : (cm 63 (gm P)).testBit k = decide (kd P k ≠ 2) := by
  have h6 := r_N6 h
  rw [tb_cm (by decide), tb_63 k (by omega)]
  unfold gm
  rw [tb_mk, decide_eq_true hk, Bool.true_and, Bool.true_and]
  by_cases q : kd P k = 2 <;> simp [q]
theorem stn0 (h : pl_R S P) (hv : pg_V g (pN P) (pF P)) (b : Nat) : b &&& bdm P g 63 = 0 ↔ stn P g b = 0 := by
  have h6 := r_N6 h
  unfold bdm stn
  rw [pms0, mk0]
  constructor
  · intro q k hk
    by_cases e : g k = -9
    · simp [e]
    · by_cases z : kd P k = 2
      · simp [z]
      · have := q k (by omega) (by rw [gm_tb h hk]; simp [z]) e
        simp [this]
  · intro q k hk t e
    by_cases hkN : k < pN P
    · have := q k hkN
      rw [gm_tb h hkN] at t
      rw [decide_eq_true e, t] at this
      simpa using this
    · exact absurd (hv.2.1 k (by omega) hk) e
theorem sgb_br (h : pl_R S P) (hv : pg_V g (pN P) (pF P)) (i j : Nat) : sgb g i j (stm g (pF P) ||| bdm P g 63) = (brk P g i j && decide (brm P g i j = 0)) := by
  unfold sgb brk brm
  have : decide (bwm (ps g i) (ps g j) &&& (stm g (pF P) ||| bdm P g 63) = 0) = (decide (bwm (ps g i) (ps g j) &&& stm g (pF P) = 0) && decide (stn P g (bwm (ps g i) (ps g j)) = 0)) := by
    rw [← Bool.decide_and]
    apply decide_eq_decide.mpr
    rw [or0, stn0 h hv]
  rw [this]
  simp only [Bool.and_assoc]
theorem brm_lt (h : pl_R S P) (i j : Nat) : brm P g i j < 2 ^ 6 := Nat.lt_of_lt_of_le (mk_lt _ _) (Nat.pow_le_pow_right (by omega) (r_N6 h))
end
