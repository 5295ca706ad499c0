section ov_E
variable {L d M pc : Nat} {lv : List (Option Value)} {st : List Value} {S S1 : ov_S} {G G1 : ov_L2} {P : Option Value → ov_S → ov_L2 → Prop}
theorem ev_alen (hd : decode (ov_byt M) pc = .ok (.arraylength, 1)) (kk : ov_J L d M (pc + 1) lv (.int (Int32.ofNat L) :: st) S G P) : ov_J L d M pc lv (.ref 0 :: st) S G P := ev_i hd rfl (fun _ => rfl) kk
theorem ev_scr {j : Int32} (hd : decode (ov_byt M) pc = .ok (.iaload, 1)) (hj : ov_ib j L) (kk : ov_J L d M (pc + 1) lv (.int (S 0 j.toNatClampNeg) :: st) S G P) : ov_J L d M pc lv (.int j :: .ref 0 :: st) S G P := by
  refine ev_i hd rfl (fun lv' => ?_) kk
  show ov_rd 9 pc lv' (.int j :: .ref 0 :: st) (ov_mm L S G) = _
  unfold ov_rd
  show (if j < 0 ∨ L ≤ j.toNatClampNeg then none else some (pc + 1, lv', (ov_mm L S G).2 0 j.toNatClampNeg :: st, ov_mm L S G)) = _
  rw [if_neg hj]
  rfl
end ov_E
