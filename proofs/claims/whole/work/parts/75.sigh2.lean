theorem if_c1 {α : Type} {A B : α} : (if (if true = true then (1 : Int32) else 0) = 0 then A else B) = B := rfl
theorem if_c0 {α : Type} {A B : α} : (if (if false = true then (1 : Int32) else 0) = 0 then A else B) = A := rfl
section
variable {S : ov_S} {P : pl_T} {a : Nat} {g : pg_g}
theorem s42 (h : pl_R S P) (hv : pg_V g (pN P) (pF P)) (he : pg_E S a g (pF P)) {x : Nat} (hx : x < 64) : f42 a S (nI x) = some (nI (hdx P g x)) := by
  have h6 := r_L6 h
  have hN := r_N6 h
  obtain ⟨m1, m2⟩ := sd_e hv
  unfold f42
  rw [s43 (r_F4 h) hv he, Option.bind_some, s38 h hv he hx, Option.bind_some, nI_or]
  refine lp_mask (body := b42_16 a S (nI x) (nI (stm g (pF P) ||| bdm P g x))) (n := pL P) (fun l => !(sd g).testBit l && x.testBit (sy P l) && x.testBit (hr P l) && sgb g (sy P l) (hr P l) (stm g (pF P) ||| bdm P g x)) (by omega) (fun k m hk hm => ?_) (fun m hm => ?_) rfl
  · obtain ⟨l1, l2, l3⟩ := r_ln h hk
    unfold b42_16
    rw [r_cL h, if_neg (nle_nI hk (by omega)), s44 h hk, Option.bind_some, s46 h hk, Option.bind_some, he.2.2, m2, s23 (by omega) (by omega), Option.bind_some]
    cases q1 : (sd g).testBit k
    · rw [if_c0, s23 (by omega) (by omega), Option.bind_some]
      cases q2 : x.testBit (sy P k)
      · rw [if_c0]
        exact or_f (by rfl)
      · rw [if_c1, s23 (by omega) (by omega), Option.bind_some]
        cases q3 : x.testBit (hr P k)
        · rw [if_c0]
          exact or_f (by rfl)
        · rw [if_c1]
          unfold f42_85_16
          rw [if_neg (by decide), s47 h hv he l1 l2, Option.bind_some]
          cases q4 : sgb g (sy P k) (hr P k) (stm g (pF P) ||| bdm P g x)
          · rw [if_c0]
            exact or_f (by rfl)
          · rw [if_c1, s27 (by omega), Option.bind_some]
            exact or_t (by rfl)
    · rw [if_c1]
      exact or_f (by rfl)
  · unfold b42_16
    rw [r_cL h, if_pos (le_nI (Nat.le_refl _) (by omega))]
theorem hdx63 (h : pl_R S P) : hdx P g 63 = hdm P g := mk_ext fun l hl => by
  have hN := r_N6 h
  obtain ⟨l1, l2, l3⟩ := r_ln h hl
  rw [tb_63 _ (by omega), tb_63 _ (by omega), Bool.and_true, Bool.and_true]
theorem s42f (h : pl_R S P) (hv : pg_V g (pN P) (pF P)) (he : pg_E S a g (pF P)) : f42 a S (63 : Int32) = some (nI (hdm P g)) := by
  rw [← hdx63 h]
  exact s42 (x := 63) h hv he (by decide)
end
