-- SIGHT, HEARD, BARS
theorem nI_z {x : Nat} (h : x < 2 ^ 31) : (nI x = 0) ↔ x = 0 := nI_eq (b := 0) h (by omega)
theorem and0 (a b : Nat) : a &&& b = 0 ↔ ∀ i, ¬(a.testBit i = true ∧ b.testBit i = true) := by
  constructor
  · intro h i q
    have := congrArg (fun z => z.testBit i) h
    simp [Nat.testBit_and, q.1, q.2] at this
  · intro h
    apply Nat.eq_of_testBit_eq
    intro i
    rw [Nat.testBit_and, Nat.zero_testBit]
    have := h i
    cases ha : a.testBit i <;> cases hb : b.testBit i <;> simp_all
theorem mk0 (n : Nat) (Q : Nat → Bool) : mk n Q = 0 ↔ ∀ k, k < n → Q k = false := by
  constructor
  · intro h k hk
    have : (mk n Q).testBit k = (0 : Nat).testBit k := by rw [h]
    rw [tb_mk, Nat.zero_testBit, decide_eq_true hk] at this
    simpa using this
  · intro h
    apply Nat.eq_of_testBit_eq
    intro i
    rw [tb_mk, Nat.zero_testBit]
    by_cases hi : i < n
    · rw [h i hi, Bool.and_false]
    · rw [decide_eq_false hi, Bool.false_and]
theorem pms0 (b n m : Nat) (g : pg_g) : b &&& pms n m g = 0 ↔ ∀ k, k < n → m.testBit k = true → g k ≠ -9 → b.testBit (ps g k) = false := by
  rw [and0]
  constructor
  · intro h k hk hm hg
    have := h (ps g k)
    rw [tb_pms] at this
    cases hb : b.testBit (ps g k)
    · rfl
    · exact absurd ⟨hb, List.any_eq_true.mpr ⟨k, List.mem_range.mpr hk, by simp [hm, hg]⟩⟩ this
  · rintro h i ⟨hb, hp⟩
    rw [tb_pms] at hp
    obtain ⟨k, hk, q⟩ := List.any_eq_true.mp hp
    simp only [Bool.and_eq_true, decide_eq_true_eq] at q
    have := h k (List.mem_range.mp hk) q.1.1 q.1.2
    rw [q.2, hb] at this
    cases this
theorem or0 (a b c : Nat) : a &&& (b ||| c) = 0 ↔ a &&& b = 0 ∧ a &&& c = 0 := by
  simp only [and0, Nat.testBit_or, Bool.or_eq_true]
  constructor
  · intro h
    exact ⟨fun i q => h i ⟨q.1, .inl q.2⟩, fun i q => h i ⟨q.1, .inr q.2⟩⟩
  · rintro ⟨h1, h2⟩ i ⟨q1, q2 | q2⟩
    · exact h1 i ⟨q1, q2⟩
    · exact h2 i ⟨q1, q2⟩
theorem tb_63 : ∀ k, k < 6 → (63 : Nat).testBit k = true := by decide
/-- bodies among the parts of x -/
def bdm (P : pl_T) (g : pg_g) (x : Nat) : Nat := pms 6 (cm x (gm P)) g
/-- sight over blocked cells b -/
def sgb (g : pg_g) (i j b : Nat) : Bool := decide (g i ≠ -9) && decide (g j ≠ -9) && bwi (ps g i) (ps g j) && decide (bwm (ps g i) (ps g j) &&& b = 0)
def sd (g : pg_g) : Nat := (g 6).toNatClampNeg
def hdx (P : pl_T) (g : pg_g) (x : Nat) : Nat := mk (pL P) (fun l => !(sd g).testBit l && x.testBit (sy P l) && x.testBit (hr P l) && sgb g (sy P l) (hr P l) (stm g (pF P) ||| bdm P g x))
def hdm (P : pl_T) (g : pg_g) : Nat := mk (pL P) (fun l => !(sd g).testBit l && sgb g (sy P l) (hr P l) (stm g (pF P) ||| bdm P g 63))
def stn (P : pl_T) (g : pg_g) (b : Nat) : Nat := mk (pN P) (fun k => decide (g k ≠ -9) && decide (kd P k ≠ 2) && b.testBit (ps g k))
def brk (P : pl_T) (g : pg_g) (i j : Nat) : Bool := decide (g i ≠ -9) && decide (g j ≠ -9) && bwi (ps g i) (ps g j) && decide (bwm (ps g i) (ps g j) &&& stm g (pF P) = 0)
def brm (P : pl_T) (g : pg_g) (i j : Nat) : Nat := stn P g (bwm (ps g i) (ps g j))
theorem ln_hdm (P : pl_T) (g : pg_g) : hdm P g < 2 ^ pL P := mk_lt _ _
section
variable {S : ov_S} {P : pl_T} {a : Nat} {g : pg_g}
theorem gm_lt (h : pl_R S P) : gm P < 2 ^ 6 := Nat.lt_of_lt_of_le (mk_lt _ _) (Nat.pow_le_pow_right (by omega) (r_N6 h))
theorem sd_e (hv : pg_V g (pN P) (pF P)) : sd g < 64 ∧ g 6 = nI (sd g) := by
  obtain ⟨m, hm, e⟩ := hv.2.2.2.1
  unfold sd
  rw [e, nI_clamp (by omega)]
  exact ⟨hm, rfl⟩
theorem s38 (h : pl_R S P) (hv : pg_V g (pN P) (pF P)) (he : pg_E S a g (pF P)) {x : Nat} (hx : x < 64) : f38 a S (nI x) = some (nI (bdm P g x)) := by
  unfold f38 f39
  rw [Option.bind_some, r_gm h, nI_cm, s40 (Nat.lt_of_lt_of_le (cm_lt (n := 6) hx) (by decide)) hv he]
  rfl
theorem bdm_lt (hv : pg_V g (pN P) (pF P)) (x : Nat) : bdm P g x < 2 ^ 18 := pms_lt hv (by omega)
theorem blk_lt (hv : pg_V g (pN P) (pF P)) (x : Nat) : stm g (pF P) ||| bdm P g x < 2 ^ 18 := Nat.or_lt_two_pow (stm_lt hv) (bdm_lt hv x)
end
