section
variable {S : ov_S} {P : pl_T} {a : Nat} {g : pg_g} {p : Nat}
theorem s164 (h : pl_R S P) (hv : pg_V g (pN P) (pF P)) (hm : pg_M S p g) {l : Nat} (hl : l < pL P) : f164 p S (nI l) = some (if (hdm P g).testBit l then 1 else 0) := by
  have h6 := r_L6 h
  obtain ⟨m1, m2⟩ := sd_e hv
  obtain ⟨l1, l2, l3⟩ := r_ln h hl
  have b1 := brm_lt (g := g) h (sy P l) (hr P l)
  unfold f164
  unfold hdm
  rw [tb_mk, decide_eq_true hl, sgb_br h hv, show (6 : Int32) = nI 6 from rfl, ov_ck_t (ib_nI (by rw [hm.1]; omega) (by rw [hm.1]; omega)), nI_clamp (by omega), hm.2 6 (by omega), m2, s152 (by omega) (by omega), Option.bind_some]
  cases q1 : (sd g).testBit l
  · rw [if_c0, ov_ck_t (ib_nI (by omega) (by omega)), ov_ck_t (ib_nI (by omega) (by omega)), nI_clamp (by omega), r_ms h hl, r_mh h hl, s165 h hv hm l1 l2, Option.bind_some]
    cases q2 : brk P g (sy P l) (hr P l)
    · rfl
    · rw [if_pos rfl]
      by_cases z : brm P g (sy P l) (hr P l) = 0
      · rw [if_pos (by rw [z]; rfl), decide_eq_true z]
        rfl
      · rw [if_neg (fun y => z ((nI_z (by omega)).mp y)), decide_eq_false z]
        rfl
  · rfl
end
