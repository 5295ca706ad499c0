theorem zadd (k : Nat) : (0 : Int32) + nI k = nI k := by
  rw [show (0 : Int32) = nI 0 from rfl, nI_add, Nat.zero_add]
theorem nI_ne {a b : Nat} (h : a ≠ b) (ha : a < 2 ^ 31) (hb : b < 2 ^ 31) : ¬ nI a = nI b := fun q => h (nI_i ha hb q)
section
variable {S : ov_S} {P : pl_T} {a : Nat} {g : pg_g} {p : Nat}
theorem s169 (h : pl_R S P) (hv : pg_V g (pN P) (pF P)) (hm : pg_M S p g) {b : Nat} (hb : b < 2 ^ 31) : f169 p S (nI b) = some (nI (stn P g b)) := by
  have h6 := r_N6 h
  unfold f169
  refine lp_mask (body := b169_5 p S (nI b)) (n := pN P) (fun k => decide (g k ≠ -9) && decide (kd P k ≠ 2) && b.testBit (ps g k)) (by omega) (fun k m hk hmm => ?_) (fun m hmm => ?_) rfl
  · have hq := r_kd h hk
    unfold b169_5
    rw [r_mN h, if_neg (nle_nI hk (by omega)), zadd, ov_ck_t (ib_nI (by rw [hm.1]; omega) (by rw [hm.1]; omega)), nI_clamp (by omega), hm.2 k (by omega)]
    rcases hv.1 k (by omega) with e | ⟨c, hc, e⟩
    · rw [if_pos e]
      exact or_f0 (by rw [e]; rfl)
    · have e9 : ¬ g k = -9 := by rw [e]; exact nI_m9 (by omega)
      rw [if_neg e9, ov_ck_t (ib_nI (by omega) (by omega)), r_mk h hk]
      by_cases q : kd P k = 2
      · rw [if_pos (show nI (kd P k) = 2 by rw [q]; rfl)]
        exact or_f0 (by rw [q]; simp)
      · rw [if_neg (show ¬ nI (kd P k) = 2 from nI_ne (b := 2) q (by omega) (by omega)), ov_ck_t (ib_nI (by rw [hm.1]; omega) (by rw [hm.1]; omega)), e, s152 hb (by omega), Option.bind_some]
        cases t : b.testBit c
        · rw [if_c0]
          exact or_f0 (by rw [ps_e hc e, t]; simp)
        · rw [if_c1]
          exact or_t1 (by omega) (by rw [ps_e hc e, t]; simp [nI_m9 (show c < 2 ^ 31 by omega), q])
  · unfold b169_5
    rw [r_mN h, if_pos (le_nI (Nat.le_refl _) (by omega))]
end
