section
variable {S : ov_S} {P : pl_T} {a : Nat} {g : pg_g} {p : Nat}
theorem s163 (h : pl_R S P) (hv : pg_V g (pN P) (pF P)) (hm : pg_M S p g) : f163 p S = some (nI (hdm P g)) := by
  have h6 := r_L6 h
  have e : hdm P g = mk (pL P) (fun l => (hdm P g).testBit l) := by
    apply Nat.eq_of_testBit_eq
    intro i
    rw [tb_mk]
    by_cases q : i < pL P
    · rw [decide_eq_true q, Bool.true_and]
    · rw [decide_eq_false q, Bool.false_and]
      unfold hdm
      rw [tb_mk, decide_eq_false q, Bool.false_and]
  unfold f163
  refine lp_mask (body := b163_4 p S) (n := pL P) (fun l => (hdm P g).testBit l) (by omega) (fun k m hk hmm => ?_) (fun m hmm => ?_) (by rw [← e])
  · unfold b163_4
    rw [r_mL h, if_neg (nle_nI hk (by omega)), s164 h hv hm hk, Option.bind_some]
    cases t : (hdm P g).testBit k
    · exact or_f0 rfl
    · exact or_t1 (by omega) rfl
  · unfold b163_4
    rw [r_mL h, if_pos (le_nI (Nat.le_refl _) (by omega))]
end
