section
variable {S : ov_S} {P : pl_T} {a : Nat} {g : pg_g}
theorem s47 (h : pl_R S P) (hv : pg_V g (pN P) (pF P)) (he : pg_E S a g (pF P)) {i j b : Nat} (hi : i < pN P) (hj : j < pN P) : f47 a S (nI i) (nI j) (nI b) = some (if sgb g i j b then 1 else 0) := by
  have h6 := r_N6 h
  unfold f47 sgb
  rw [s35 h he hi, s35 h he hj, Option.bind_some, Option.bind_some]
  rcases hv.1 i (by omega) with e | ⟨c, hc, e⟩
  · rw [e, s48n]
    rfl
  · have e9 : decide (g i ≠ -9) = true := decide_eq_true (by rw [e]; exact nI_m9 (by omega))
    rw [e9, ps_e hc e, e]
    rcases hv.1 j (by omega) with q | ⟨d, hd, q⟩
    · rw [q, s48n2 hc]
      rfl
    · have q9 : decide (g j ≠ -9) = true := decide_eq_true (by rw [q]; exact nI_m9 (by omega))
      obtain ⟨w1, w2⟩ := bw_166 c hc d hd
      rw [q9, ps_e hd q, q, bw_48 c hc d hd, w1, Option.bind_some]
      cases hw : bwi c d
      · rfl
      · rw [if_pos rfl, if_neg (nI_m9 (by omega)), nI_and]
        by_cases z : bwm c d &&& b = 0
        · rw [if_pos (by rw [z]; rfl), decide_eq_true z]
          rfl
        · rw [if_neg (fun y => z ((nI_z (Nat.lt_of_le_of_lt Nat.and_le_left (by omega))).mp y)), decide_eq_false z]
          rfl
end
