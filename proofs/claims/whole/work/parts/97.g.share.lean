-- CALLS: share
section
variable {S : ov_S} {G : ov_L2} {P : pl_T} {a : Nat} {g : pg_g} {p : Nat}
/-- how many are heard with these alone -/
def vv (P : pl_T) (g : pg_g) (s : Nat) : Int := (pc (hdm P (rs g s)) : Nat)
def mg (P : pl_T) (g : pg_g) (k s : Nat) : Int := vv P g (s ||| 2 ^ k) - vv P g s
theorem vv_b (P : pl_T) (g : pg_g) (k s : Nat) : (mg P g k s).natAbs ≤ 18 := by
  have h1 : pc (hdm P (rs g (s ||| 2 ^ k))) ≤ 18 := pc_le _
  have h2 : pc (hdm P (rs g s)) ≤ 18 := pc_le _
  unfold mg vv
  omega
theorem vv_on (hv : pg_V g (pN P) (pF P)) (s : Nat) : vv P g (s &&& onm P g) = vv P g s := by
  have : rs g (s &&& onm P g) = rs g s := funext fun j => by
    by_cases h : j < 6
    · cases t : s.testBit j
      · rw [rs_out h (by rw [Nat.testBit_and, t, Bool.false_and]), rs_out h t]
      · by_cases z : g j = -9
        · rw [rs_out h (by rw [Nat.testBit_and, onm_tb hv h, decide_eq_false (fun q => q z), Bool.and_false]), rs_in t, z]
        · rw [rs_in (by rw [Nat.testBit_and, t, onm_tb hv h, decide_eq_true z]; rfl), rs_in t]
    · rw [rs_hi (by omega), rs_hi (by omega)]
  unfold vv
  rw [this]
theorem mg_on (hv : pg_V g (pN P) (pF P)) {k : Nat} (ko : (onm P g).testBit k = true) (s : Nat) : mg P g k (s &&& onm P g) = mg P g k s := by
  have e : (s &&& onm P g) ||| 2 ^ k = (s ||| 2 ^ k) &&& onm P g := by
    apply Nat.eq_of_testBit_eq
    intro t
    rw [Nat.testBit_or, Nat.testBit_and, Nat.testBit_and, Nat.testBit_or, tb_pow]
    by_cases q : k = t
    · rw [← q, ko, decide_eq_true rfl]
      cases s.testBit k <;> rfl
    · rw [decide_eq_false q, Bool.or_false, Bool.or_false]
  unfold mg
  rw [e, vv_on hv, vv_on hv]
theorem pc_6 {s : Nat} (hs : s < 64) : pc s ≤ 6 := by
  have e : pc s = pcn s 6 := pcn_end (fun i hi => Nat.testBit_lt_two_pow (Nat.lt_of_lt_of_le (show s < 2 ^ 6 from hs) (Nat.pow_le_pow_right (by decide) hi))) 18 (by omega)
  rw [e]
  exact pcn_le _ _
/-- the reference's sum -/
def upF (P : pl_T) (g : pg_g) (k n s : Nat) : Int := if s.testBit k = true then 0 else ((fc (pc s) * fc (n - 1 - pc s) : Nat) : Int) * mg P g k s
def moF (P : pl_T) (g : pg_g) (k o b s : Nat) : Int := if cm s o = 0 then ((fc (pc s) * fc (b - pc s) : Nat) : Int) * mg P g k s else 0
theorem w_b {a b : Nat} {z : Int} (ha : a ≤ 6) (hb : b ≤ 6) (hz : z.natAbs ≤ 18) : (((fc a * fc b : Nat) : Int) * z).natAbs ≤ 9331200 := by
  have h1 := (fc_b a (by omega)).2
  have h2 := (fc_b b (by omega)).2
  rw [Int.natAbs_mul, Int.natAbs_natCast]
  have : fc a * fc b ≤ 720 * 720 := Nat.mul_le_mul h1 h2
  have := Nat.mul_le_mul this hz
  omega
theorem up_b {k n : Nat} (hn : n ≤ 6) : ∀ m, m ≤ 64 → (sumI (upF P g k n) m).natAbs < 2 ^ 30 := fun m hm => by
  have := sumI_b (F := upF P g k n) (K := 9331200) m (fun s hs => by
    unfold upF
    split
    · exact Nat.zero_le _
    · exact w_b (pc_6 (by omega)) (by omega) (vv_b P g k s))
  have : 9331200 * m ≤ 9331200 * 64 := Nat.mul_le_mul_left _ hm
  omega
theorem mo_b {k o b : Nat} (hb : b ≤ 6) : ∀ m, m ≤ 64 → (sumI (moF P g k o b) m).natAbs < 2 ^ 30 := fun m hm => by
  have := sumI_b (F := moF P g k o b) (K := 9331200) m (fun s hs => by
    unfold moF
    split
    · exact w_b (pc_6 (by omega)) (by omega) (vv_b P g k s)
    · exact Nat.zero_le _)
  have : 9331200 * m ≤ 9331200 * 64 := Nat.mul_le_mul_left _ hm
  omega
theorem cm_le {s o : Nat} (hs : s < 2 ^ 32) (h : cm s o = 0) : s ≤ o := by
  have e : s &&& o = s := by
    apply Nat.eq_of_testBit_eq
    intro t
    rw [Nat.testBit_and]
    have := tb_cm (m := s) (b := o) (i := t) hs
    rw [h, Nat.zero_testBit] at this
    cases q : s.testBit t
    · rfl
    · rw [q] at this
      cases z : o.testBit t
      · rw [z] at this
        cases this
      · rfl
  rw [← e]
  exact Nat.and_le_right
/-- both sums give one fraction -/
theorem sh_eq (R : pl_R S P) (hv : pg_V g (pN P) (pF P)) {k : Nat} (hk : k < pN P) (on : g k ≠ -9) (x : Int32) : frc (sumI (upF P g k (pN P)) (2 ^ pN P)) (fc (pN P)) x = frc (sumI (moF P g k (cm (onm P g) (2 ^ k)) (pc (cm (onm P g) (2 ^ k)))) (cm (onm P g) (2 ^ k) + 1)) (fc (pc (cm (onm P g) (2 ^ k)) + 1)) x := by
  have h6 := r_N6 R
  have ol := onm_lt (g := g) R
  have kb : (onm P g).testBit k = true := by rw [onm_tb hv (by omega)]; exact decide_eq_true on
  have cl : cm (onm P g) (2 ^ k) < 64 := cm_lt (n := 6) ol
  have onN : ∀ i, pN P ≤ i → (onm P g).testBit i = false := fun i hi => by
    unfold onm
    rw [tb_mk, decide_eq_false (by omega), Bool.false_and]
  have ck : (cm (onm P g) (2 ^ k)).testBit k = false := by rw [tb_cm (by omega), tb_pow, decide_eq_true rfl]; simp
  have or_on : cm (onm P g) (2 ^ k) ||| 2 ^ k = onm P g := by
    apply Nat.eq_of_testBit_eq
    intro t
    rw [Nat.testBit_or, tb_cm (by omega), tb_pow]
    by_cases q : k = t
    · rw [← q, kb, decide_eq_true rfl]
      rfl
    · rw [decide_eq_false q]
      simp
  have pce : pc (onm P g) = pc (cm (onm P g) (2 ^ k)) + 1 := by
    rw [← pc_or ck (by omega), or_on]
  have pcN : pc (onm P g) = pcn (onm P g) (pN P) := pcn_end onN 18 (by omega)
  have dmE := pc_dm (on := onm P g) kb (pN P)
  have e1 : sumI (upF P g k (pN P)) (2 ^ pN P) = Vs (wF k (onm P g) (mg P g k) (pN P)) (pN P) 0 := by
    rw [← Vs_0]
    refine sumI_ext _ (fun s _ => ?_)
    unfold upF wF
    rw [mg_on hv kb]
  have nbE : nb k (pN P) = pN P - 1 := if_pos hk
  have p0 : pc 0 = 0 := by decide
  have e2 : Vs (wF k (onm P g) (mg P g k) (pN P)) (pN P) 0 = (prn (pN P) (dm k (onm P g) (pN P)) : Int) * Vs (wG k (onm P g) (mg P g k) (pN P - dm k (onm P g) (pN P))) (pN P) 0 := VR kb (pN P) (pN P) 0 (by omega) (fun t _ q => by rw [Nat.zero_testBit] at q; cases q) (by omega) (Nat.zero_testBit _) (fun t _ => Nat.zero_testBit _) (by rw [nbE, p0]; omega)
  have eN : pN P - dm k (onm P g) (pN P) = pc (cm (onm P g) (2 ^ k)) + 1 := by omega
  have e3 : Vs (wG k (onm P g) (mg P g k) (pc (cm (onm P g) (2 ^ k)) + 1)) (pN P) 0 = sumI (moF P g k (cm (onm P g) (2 ^ k)) (pc (cm (onm P g) (2 ^ k)))) (cm (onm P g) (2 ^ k) + 1) := by
    have c2 : cm (onm P g) (2 ^ k) < 2 ^ pN P := Nat.lt_of_le_of_lt (Nat.and_le_left) (by
      unfold onm
      exact mk_lt _ _)
    have ext : ∀ s, s < 2 ^ pN P → wG k (onm P g) (mg P g k) (pc (cm (onm P g) (2 ^ k)) + 1) s = moF P g k (cm (onm P g) (2 ^ k)) (pc (cm (onm P g) (2 ^ k))) s := by
      intro s hs
      have p64 : 2 ^ pN P ≤ 2 ^ 6 := Nat.pow_le_pow_right (by decide) h6
      have iff : (s.testBit k = true ∨ cm s (onm P g) ≠ 0) ↔ ¬ cm s (cm (onm P g) (2 ^ k)) = 0 := by
        constructor
        · intro q z
          have zt : ∀ t, (s.testBit t && !(cm (onm P g) (2 ^ k)).testBit t) = false := fun t => by
            rw [← tb_cm (m := s) (by omega), z, Nat.zero_testBit]
          rcases q with q | q
          · have := zt k
            rw [q, ck] at this
            cases this
          · apply q
            apply Nat.eq_of_testBit_eq
            intro t
            rw [tb_cm (by omega), Nat.zero_testBit]
            have := zt t
            rw [tb_cm (by omega), tb_pow] at this
            cases a1 : s.testBit t
            · rfl
            · rw [a1] at this
              cases a2 : (onm P g).testBit t
              · rw [a2] at this
                cases this
              · rfl
        · intro z
          apply Classical.byContradiction
          intro q
          apply z
          apply Nat.eq_of_testBit_eq
          intro t
          rw [tb_cm (by omega), Nat.zero_testBit, tb_cm (by omega), tb_pow]
          have q1 : s.testBit k = false := by
            cases w : s.testBit k
            · rfl
            · exact absurd (.inl w) q
          have q2 : cm s (onm P g) = 0 := Classical.byContradiction fun w => q (.inr w)
          have := tb_cm (m := s) (b := onm P g) (i := t) (by omega)
          rw [q2, Nat.zero_testBit] at this
          by_cases y : k = t
          · rw [← y, q1]
            rfl
          · rw [decide_eq_false y]
            cases a1 : s.testBit t
            · rfl
            · rw [a1] at this
              cases a2 : (onm P g).testBit t
              · rw [a2] at this
                cases this
              · rfl
      unfold wG moF
      by_cases y : cm s (cm (onm P g) (2 ^ k)) = 0
      · rw [if_neg (fun q => iff.mp q y), if_pos y]
        rfl
      · rw [if_pos (iff.mpr y), if_neg y]
    rw [← Vs_0, sumI_ext _ ext]
    obtain ⟨b, hb⟩ : ∃ b, 2 ^ pN P = cm (onm P g) (2 ^ k) + 1 + b := ⟨2 ^ pN P - (cm (onm P g) (2 ^ k) + 1), by omega⟩
    have p64 : 2 ^ pN P ≤ 2 ^ 6 := Nat.pow_le_pow_right (by decide) h6
    rw [hb]
    refine sumI_0 b (fun s h1 h2 => if_neg (fun q => ?_))
    have := cm_le (show s < 2 ^ 32 by omega) q
    omega
  have e4 : fc (pN P) = fc (pc (cm (onm P g) (2 ^ k)) + 1) * prn (pN P) (dm k (onm P g) (pN P)) := by
    rw [← prn_fc (dm k (onm P g) (pN P)) (pN P) (by omega), eN, Nat.mul_comm]
  have f0 := fc_b (pN P) (by omega)
  have f1 := fc_b (pc (cm (onm P g) (2 ^ k)) + 1) (by omega)
  have c0 : 0 < prn (pN P) (dm k (onm P g) (pN P)) := by
    rcases Nat.eq_zero_or_pos (prn (pN P) (dm k (onm P g) (pN P))) with z | z
    · rw [z, Nat.mul_zero] at e4
      omega
    · exact z
  rw [e1, e2, eN, e3, e4, Int.mul_comm]
  exact frc_sc c0 f1.1 x
/-- who is not on: nothing -/
theorem sh_off (hv : pg_V g (pN P) (pF P)) {k : Nat} (k6 : k < 6) (off : g k = -9) (n : Nat) : ∀ m, sumI (upF P g k n) m = 0
  | 0 => rfl
  | m + 1 => by
    have e : mg P g k m = 0 := by
      have : rs g (m ||| 2 ^ k) = rs g m := funext fun j => by
        by_cases h : j < 6
        · by_cases q : k = j
          · rw [← q, rs_in (by rw [Nat.testBit_or, tb_pow, decide_eq_true rfl, Bool.or_true]), off]
            cases t : m.testBit k
            · rw [rs_out k6 t]
            · rw [rs_in t, off]
          · have eb : (m ||| 2 ^ k).testBit j = m.testBit j := by rw [Nat.testBit_or, tb_pow, decide_eq_false q, Bool.or_false]
            cases t : m.testBit j
            · rw [rs_out h (eb.trans t), rs_out h t]
            · rw [rs_in (eb.trans t), rs_in t]
        · rw [rs_hi (by omega), rs_hi (by omega)]
      unfold mg vv
      rw [this]
      omega
    show sumI (upF P g k n) m + upF P g k n m = 0
    rw [sh_off hv k6 off n m]
    unfold upF
    rw [e, Int.mul_zero]
    split <;> rfl
end
