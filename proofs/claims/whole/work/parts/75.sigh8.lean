section
variable {S : ov_S} {P : pl_T} {a : Nat} {g : pg_g} {p : Nat}
theorem s111 (h : pl_R S P) (hv : pg_V g (pN P) (pF P)) (he : pg_E S a g (pF P)) {i j : Nat} (hi : i < pN P) (hj : j < pN P) : f111 a S (nI i) (nI j) = some (if brk P g i j then nI (brm P g i j) else -9) := by
  have h6 := r_N6 h
  unfold f111
  rw [s35 h he hi, s35 h he hj, Option.bind_some, Option.bind_some]
  unfold brk brm
  rcases hv.1 i (by omega) with e | ⟨c, hc, e⟩
  · rw [e, s48n]
    rfl
  · have e9 : ¬ g i = -9 := by rw [e]; exact nI_m9 (by omega)
    rw [decide_eq_true e9, ps_e hc e, e]
    rcases hv.1 j (by omega) with q | ⟨d, hd, q⟩
    · rw [q, s48n2 hc]
      rfl
    · have q9 : ¬ g j = -9 := by rw [q]; exact nI_m9 (by omega)
      obtain ⟨w1, w2⟩ := bw_166 c hc d hd
      have w3 := bw_48 c hc d hd
      rw [w1] at w3
      rw [decide_eq_true q9, ps_e hd q, q]
      clear w1
      generalize bwm c d = w at w2 w3 ⊢
      rw [w3, Option.bind_some]
      cases hw : bwi c d
      · rfl
      · rw [if_pos rfl, if_neg (nI_m9 (by omega)), s43 (r_F4 h) hv he, Option.bind_some, nI_and]
        by_cases z : w &&& stm g (pF P) = 0
        · rw [if_pos (by rw [z]; rfl), decide_eq_true z]
          show _ = some (nI (stn P g (w)))
          refine lp_mask (body := b111_38 a S (nI (w))) (n := pN P) (fun k => decide (g k ≠ -9) && decide (kd P k ≠ 2) && (w).testBit (ps g k)) (by omega) (fun k m hk hmm => ?_) (fun m hmm => ?_) rfl
          · have hq := r_kd h hk
            unfold b111_38
            rw [r_cN h, if_neg (nle_nI hk (by omega)), s64 h hk, Option.bind_some]
            by_cases q : kd P k = 2
            · rw [if_pos (show nI (kd P k) = 2 by rw [q]; rfl)]
              exact or_f (by rw [q]; simp)
            · rw [if_neg (show ¬ nI (kd P k) = 2 from nI_ne (b := 2) q (by omega) (by omega)), s35 h he hk, Option.bind_some]
              rcases hv.1 k (by omega) with e | ⟨c', hc', e⟩
              · rw [e, s23n, Option.bind_some, if_pos rfl]
                exact or_f (by rfl)
              · have k9 : ¬ g k = -9 := by rw [e]; exact nI_m9 (by omega)
                rw [e, s23 (by omega) (by omega), Option.bind_some]
                cases t : (w).testBit c'
                · rw [if_c0]
                  exact or_f (by rw [ps_e hc' e, t]; simp)
                · rw [if_c1]
                  unfold f111_81_38
                  rw [if_neg (by decide), s27 (by omega), Option.bind_some]
                  exact or_t (by rw [ps_e hc' e, t]; simp [nI_m9 (show c' < 2 ^ 31 by omega), q])
          · unfold b111_38
            rw [r_cN h, if_pos (le_nI (Nat.le_refl _) (by omega))]
        · rw [if_neg (fun y => z ((nI_z (Nat.lt_of_le_of_lt Nat.and_le_left (by omega))).mp y)), decide_eq_false z]
          rfl
end
