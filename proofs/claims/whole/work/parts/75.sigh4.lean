section
variable {S : ov_S} {P : pl_T} {a : Nat} {g : pg_g} {p : Nat}
theorem s165 (h : pl_R S P) (hv : pg_V g (pN P) (pF P)) (hm : pg_M S p g) {i j : Nat} (hi : i < pN P) (hj : j < pN P) : f165 p S (nI i) (nI j) = some (if brk P g i j then nI (brm P g i j) else -9) := by
  have h6 := r_N6 h
  unfold f165
  rw [zadd, zadd, ov_ck_t (ib_nI (by rw [hm.1]; omega) (by rw [hm.1]; omega)), nI_clamp (by omega), nI_clamp (by omega), hm.2 i (by omega), hm.2 j (by omega)]
  unfold brk brm
  rcases hv.1 i (by omega) with e | ⟨c, hc, e⟩
  · rw [if_pos e, e]
    rfl
  · have e9 : ¬ g i = -9 := by rw [e]; exact nI_m9 (by omega)
    rw [if_neg e9, ov_ck_t (ib_nI (by rw [hm.1]; omega) (by rw [hm.1]; omega)), decide_eq_true e9]
    rcases hv.1 j (by omega) with q | ⟨d, hd, q⟩
    · rw [if_pos q, q]
      rfl
    · have q9 : ¬ g j = -9 := by rw [q]; exact nI_m9 (by omega)
      obtain ⟨w1, w2⟩ := bw_166 c hc d hd
      rw [if_neg q9, ov_ck_t (ib_nI (by rw [hm.1]; omega) (by rw [hm.1]; omega)), ov_ck_t (ib_nI (by rw [hm.1]; omega) (by rw [hm.1]; omega)), decide_eq_true q9, ps_e hd q, ps_e hc e, q, e, w1, Option.bind_some]
      cases hw : bwi c d
      · rfl
      · rw [if_pos rfl, if_neg (nI_m9 (by omega)), s168 h hm hv, Option.bind_some, nI_and]
        by_cases z : bwm c d &&& stm g (pF P) = 0
        · rw [if_pos (by rw [z]; rfl), decide_eq_true z, s169 h hv hm (by omega)]
          rfl
        · rw [if_neg (fun y => z ((nI_z (Nat.lt_of_le_of_lt Nat.and_le_left (by omega))).mp y)), decide_eq_false z]
          rfl
end
