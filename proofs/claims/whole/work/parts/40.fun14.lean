-- 218 OEModel.rests
def f218 (S : ov_S) (x1 : Int32) (x2 : Int32) (x3 : Int32) : Option (Int32 × ov_S) :=
  (f175 (ov_up S 42 0 (0 : Int32)) x1).bind fun y1 => (if y1 = 0 then (f175 (ov_up S 42 0 (0 : Int32)) x2).bind fun y2 => (if y2 = 0 then (if x1 = x2 then some ((-2 : Int32), (ov_up S 42 0 (0 : Int32))) else (f144 (x3).toInt64 (0 : Int64) (1 : Int64)).bind fun y3 => (if y3 = 0 then some ((-2 : Int32), (ov_up S 42 0 (0 : Int32))) else ov_ck (ov_ibb ((0 : Int32) + x1) 12) ((if ((ov_up S 42 0 (0 : Int32)) 55 (((0 : Int32) + x1)).toNatClampNeg) = (-9 : Int32) then ov_ck (ov_ibb ((0 : Int32) + x2) 12) ((if ((ov_up S 42 0 (0 : Int32)) 55 (((0 : Int32) + x2)).toNatClampNeg) = (-9 : Int32) then (f219 (ov_up S 42 0 (0 : Int32)) x1 x2).bind fun y6 => (if x3 = 0 then some ((y6 42 39), y6) else some ((y6 42 40), y6)) else some ((-3 : Int32), (ov_up S 42 0 (0 : Int32))))) else some ((-3 : Int32), (ov_up S 42 0 (0 : Int32))))))) else some ((-1 : Int32), (ov_up S 42 0 (0 : Int32)))) else some ((-1 : Int32), (ov_up S 42 0 (0 : Int32))))
theorem t218 {L : Nat} {S : ov_S} {G : ov_L2} {x1 : Int32} {x2 : Int32} {x3 : Int32} {P : Option Value → ov_S → ov_L2 → Prop}  {out : Int32 × ov_S} (h : f218 S x1 x2 x3 = some out) (hP : P (some (.int out.1)) out.2 G) : ov_J L 6 218 0 [some (.ref 42), some (.int x1), some (.int x2), some (.int x3)] [] S G P := by
  unfold f218 at h
  refine ev_aload_n od_218_0 rfl ?_
  refine ev_iconst (v := (0 : Int32)) od_218_1 (by decide) ?_
  refine ev_pf op_218_2 oO_42 rfl rfl ?_
  refine ev_aload_n od_218_5 rfl ?_
  refine ev_iload_n od_218_6 rfl ?_
  obtain ⟨y1, hy1, h⟩ := ov_bd h
  try dsimp only at h
  refine ev_cvi (y := 175) (n := 1) (a := 42) (c := 8) (as := [.int x1]) (rest := []) (dc := 2) oc_218_7 rfl rfl rfl oO_42 rfl rfl rfl rfl (by decide) (R175  hy1) ?_
  refine ev_if_ne (t := 21) od_218_10 (by decide) (fun hc13 => ?_) (fun hc13 => ?_)
  · rw [if_neg hc13] at h
    refine ev_iconst (v := (-1 : Int32)) od_218_21 (by decide) ?_
    cases h
    exact ev_iret od_218_22 rfl hP
  · rw [if_pos hc13] at h
    refine ev_aload_n od_218_13 rfl ?_
    refine ev_iload_n od_218_14 rfl ?_
    obtain ⟨y2, hy2, h⟩ := ov_bd h
    try dsimp only at h
    refine ev_cvi (y := 175) (n := 1) (a := 42) (c := 8) (as := [.int x2]) (rest := []) (dc := 2) oc_218_15 rfl rfl rfl oO_42 rfl rfl rfl rfl (by decide) (R175  hy2) ?_
    refine ev_if_eq (t := 23) od_218_18 (by decide) (fun hc12 => ?_) (fun hc12 => ?_)
    · rw [if_pos hc12] at h
      refine ev_iload_n od_218_23 rfl ?_
      refine ev_iload_n od_218_24 rfl ?_
      refine ev_icmp_eq (t := 38) od_218_25 (by decide) (fun hc11 => ?_) (fun hc11 => ?_)
      · rw [if_pos hc11] at h
        refine ev_bipush (v := (-2 : Int32)) od_218_38 (by decide) ?_
        cases h
        exact ev_iret od_218_40 rfl hP
      · rw [if_neg hc11] at h
        refine ev_iload_n od_218_28 rfl ?_
        refine ev_i2l od_218_29 ?_
        refine ev_lconst (v := (0 : Int64)) od_218_30 (by decide) ?_
        refine ev_lconst (v := (1 : Int64)) od_218_31 (by decide) ?_
        obtain ⟨y3, hy3, h⟩ := ov_bd h
        try dsimp only at h
        refine ev_csi (y := 144) (n := 3) (as := [.long (x3).toInt64, .long (0 : Int64), .long (1 : Int64)]) (rest := []) (dc := 1) oc_218_32 rfl rfl rfl rfl rfl (by decide) (R144  hy3) ?_
        refine ev_if_ne (t := 41) od_218_35 (by decide) (fun hc10 => ?_) (fun hc10 => ?_)
        · rw [if_neg hc10] at h
          refine ev_aload_n od_218_41 rfl ?_
          refine ev_gf (v := .ref 55) og_218_42 oO_42 rfl ?_
          refine ev_iconst (v := (0 : Int32)) od_218_45 (by decide) ?_
          refine ev_iload_n od_218_46 rfl ?_
          refine ev_iadd od_218_47 ?_
          obtain ⟨bq4, h⟩ := ov_ck_ok h
          refine ev_iald od_218_48 oA_55 (ov_ibk bq4) ?_
          refine ev_bipush (v := (-9 : Int32)) od_218_49 (by decide) ?_
          refine ev_icmp_ne (t := 67) od_218_51 (by decide) (fun hc9 => ?_) (fun hc9 => ?_)
          · rw [if_neg hc9] at h
            refine ev_bipush (v := (-3 : Int32)) od_218_67 (by decide) ?_
            cases h
            exact ev_iret od_218_69 rfl hP
          · rw [if_pos hc9] at h
            refine ev_aload_n od_218_54 rfl ?_
            refine ev_gf (v := .ref 55) og_218_55 oO_42 rfl ?_
            refine ev_iconst (v := (0 : Int32)) od_218_58 (by decide) ?_
            refine ev_iload_n od_218_59 rfl ?_
            refine ev_iadd od_218_60 ?_
            obtain ⟨bq5, h⟩ := ov_ck_ok h
            refine ev_iald od_218_61 oA_55 (ov_ibk bq5) ?_
            refine ev_bipush (v := (-9 : Int32)) od_218_62 (by decide) ?_
            refine ev_icmp_eq (t := 70) od_218_64 (by decide) (fun hc8 => ?_) (fun hc8 => ?_)
            · rw [if_pos hc8] at h
              refine ev_aload_n od_218_70 rfl ?_
              refine ev_iload_n od_218_71 rfl ?_
              refine ev_iload_n od_218_72 rfl ?_
              obtain ⟨y6, hy6, h⟩ := ov_bd h
              try dsimp only at h
              refine ev_cvv (y := 219) (n := 2) (a := 42) (c := 8) (as := [.int x1, .int x2]) (rest := []) (dc := 6) oc_218_73 rfl rfl rfl oO_42 rfl rfl rfl rfl (by decide) (R219  hy6) ?_
              refine ev_iload_n od_218_76 rfl ?_
              refine ev_if_ne (t := 87) od_218_77 (by decide) (fun hc7 => ?_) (fun hc7 => ?_)
              · rw [if_neg hc7] at h
                refine ev_aload_n od_218_87 rfl ?_
                refine ev_gf (v := .int (y6 42 40)) og_218_88 oO_42 rfl ?_
                cases h
                exact ev_iret od_218_91 rfl hP
              · rw [if_pos hc7] at h
                refine ev_aload_n od_218_80 rfl ?_
                refine ev_gf (v := .int (y6 42 39)) og_218_81 oO_42 rfl ?_
                refine ev_goto (t := 91) od_218_84 (by decide) ?_
                cases h
                exact ev_iret od_218_91 rfl hP
            · rw [if_neg hc8] at h
              refine ev_bipush (v := (-3 : Int32)) od_218_67 (by decide) ?_
              cases h
              exact ev_iret od_218_69 rfl hP
        · rw [if_pos hc10] at h
          refine ev_bipush (v := (-2 : Int32)) od_218_38 (by decide) ?_
          cases h
          exact ev_iret od_218_40 rfl hP
    · rw [if_neg hc12] at h
      refine ev_iconst (v := (-1 : Int32)) od_218_21 (by decide) ?_
      cases h
      exact ev_iret od_218_22 rfl hP
theorem R218 {L : Nat} {S : ov_S} {G : ov_L2} {x1 : Int32} {x2 : Int32} {x3 : Int32}  {out : Int32 × ov_S} (h : f218 S x1 x2 x3 = some out) : ov_R L 7 218 [.ref 42, .int x1, .int x2, .int x3] S G (some (.int out.1)) out.2 G :=
  ov_Rof (t218  h ⟨rfl, rfl, rfl⟩)
-- 129 OE.rests
def f129 (S : ov_S) (x1 : Int32) (x2 : Int32) (x3 : Int32) : Option (Int32 × ov_S) :=
  (f29 4 S x1).bind fun y1 => (if y1 = 0 then some ((-1 : Int32), S) else (f29 4 S x2).bind fun y2 => (if y2 = 0 then some ((-1 : Int32), S) else (if x1 = x2 then some ((-2 : Int32), S) else (if x3 < 0 then some ((-2 : Int32), S) else (if x3 ≤ (1 : Int32) then (f34 18 S x1).bind fun y3 => (if y3 = 0 then (f34 18 S x2).bind fun y4 => (if y4 = 0 then (f130 S x1 x2).bind fun y5 => (if x3 = 0 then (f134 y5).bind fun y7 => some (y7, y5) else (f135 y5).bind fun y6 => some (y6, y5)) else some ((-3 : Int32), S)) else some ((-3 : Int32), S)) else some ((-2 : Int32), S))))))
theorem t129 {L : Nat} {S : ov_S} {G : ov_L2} {x1 : Int32} {x2 : Int32} {x3 : Int32} {P : Option Value → ov_S → ov_L2 → Prop}  {out : Int32 × ov_S} (h : f129 S x1 x2 x3 = some out) (hP : P (some (.int out.1)) out.2 G) : ov_J L 7 129 0 [some (.ref 1), some (.int x1), some (.int x2), some (.int x3)] [] S G P := by
  unfold f129 at h
  refine ev_aload_n od_129_0 rfl ?_
  refine ev_gf (v := .ref 4) og_129_1 oO_1 rfl ?_
  refine ev_iload_n od_129_4 rfl ?_
  obtain ⟨y1, hy1, h⟩ := ov_bd h
  try dsimp only at h
  refine ev_cvi (y := 29) (n := 1) (a := 4) (c := 2) (as := [.int x1]) (rest := []) (dc := 1) oc_129_5 rfl rfl rfl oO_4 rfl rfl rfl rfl (by decide) (R29 oP_4 hy1) ?_
  refine ev_if_eq (t := 22) od_129_8 (by decide) (fun hc15 => ?_) (fun hc15 => ?_)
  · rw [if_pos hc15] at h
    refine ev_iconst (v := (-1 : Int32)) od_129_22 (by decide) ?_
    cases h
    exact ev_iret od_129_23 rfl hP
  · rw [if_neg hc15] at h
    refine ev_aload_n od_129_11 rfl ?_
    refine ev_gf (v := .ref 4) og_129_12 oO_1 rfl ?_
    refine ev_iload_n od_129_15 rfl ?_
    obtain ⟨y2, hy2, h⟩ := ov_bd h
    try dsimp only at h
    refine ev_cvi (y := 29) (n := 1) (a := 4) (c := 2) (as := [.int x2]) (rest := []) (dc := 1) oc_129_16 rfl rfl rfl oO_4 rfl rfl rfl rfl (by decide) (R29 oP_4 hy2) ?_
    refine ev_if_ne (t := 24) od_129_19 (by decide) (fun hc14 => ?_) (fun hc14 => ?_)
    · rw [if_neg hc14] at h
      refine ev_iload_n od_129_24 rfl ?_
      refine ev_iload_n od_129_25 rfl ?_
      refine ev_icmp_eq (t := 38) od_129_26 (by decide) (fun hc13 => ?_) (fun hc13 => ?_)
      · rw [if_pos hc13] at h
        refine ev_bipush (v := (-2 : Int32)) od_129_38 (by decide) ?_
        cases h
        exact ev_iret od_129_40 rfl hP
      · rw [if_neg hc13] at h
        refine ev_iload_n od_129_29 rfl ?_
        refine ev_if_lt (t := 38) od_129_30 (by decide) (fun hc12 => ?_) (fun hc12 => ?_)
        · rw [if_pos hc12] at h
          refine ev_bipush (v := (-2 : Int32)) od_129_38 (by decide) ?_
          cases h
          exact ev_iret od_129_40 rfl hP
        · rw [if_neg hc12] at h
          refine ev_iload_n od_129_33 rfl ?_
          refine ev_iconst (v := (1 : Int32)) od_129_34 (by decide) ?_
          refine ev_icmp_le (t := 41) od_129_35 (by decide) (fun hc11 => ?_) (fun hc11 => ?_)
          · rw [if_pos hc11] at h
            refine ev_aload_n od_129_41 rfl ?_
            refine ev_gf (v := .ref 18) og_129_42 oO_1 rfl ?_
            refine ev_iload_n od_129_45 rfl ?_
            obtain ⟨y3, hy3, h⟩ := ov_bd h
            try dsimp only at h
            refine ev_cvi (y := 34) (n := 1) (a := 18) (c := 3) (as := [.int x1]) (rest := []) (dc := 3) oc_129_46 rfl rfl rfl oO_18 rfl rfl rfl rfl (by decide) (R34 oS_18 hy3) ?_
            refine ev_if_ne (t := 63) od_129_49 (by decide) (fun hc10 => ?_) (fun hc10 => ?_)
            · rw [if_neg hc10] at h
              refine ev_bipush (v := (-3 : Int32)) od_129_63 (by decide) ?_
              cases h
              exact ev_iret od_129_65 rfl hP
            · rw [if_pos hc10] at h
              refine ev_aload_n od_129_52 rfl ?_
              refine ev_gf (v := .ref 18) og_129_53 oO_1 rfl ?_
              refine ev_iload_n od_129_56 rfl ?_
              obtain ⟨y4, hy4, h⟩ := ov_bd h
              try dsimp only at h
              refine ev_cvi (y := 34) (n := 1) (a := 18) (c := 3) (as := [.int x2]) (rest := []) (dc := 3) oc_129_57 rfl rfl rfl oO_18 rfl rfl rfl rfl (by decide) (R34 oS_18 hy4) ?_
              refine ev_if_eq (t := 66) od_129_60 (by decide) (fun hc9 => ?_) (fun hc9 => ?_)
              · rw [if_pos hc9] at h
                refine ev_aload_n od_129_66 rfl ?_
                refine ev_gf (v := .ref 32) og_129_67 oO_1 rfl ?_
                refine ev_iload_n od_129_70 rfl ?_
                refine ev_iload_n od_129_71 rfl ?_
                obtain ⟨y5, hy5, h⟩ := ov_bd h
                try dsimp only at h
                refine ev_cvv (y := 130) (n := 2) (a := 32) (c := 7) (as := [.int x1, .int x2]) (rest := []) (dc := 7) oc_129_72 rfl rfl rfl oO_32 rfl rfl rfl rfl (by decide) (R130  hy5) ?_
                refine ev_iload_n od_129_75 rfl ?_
                refine ev_if_ne (t := 89) od_129_76 (by decide) (fun hc8 => ?_) (fun hc8 => ?_)
                · rw [if_neg hc8] at h
                  refine ev_aload_n od_129_89 rfl ?_
                  refine ev_gf (v := .ref 32) og_129_90 oO_1 rfl ?_
                  obtain ⟨y6, hy6, h⟩ := ov_bd h
                  try dsimp only at h
                  refine ev_cvi (y := 135) (n := 0) (a := 32) (c := 7) (as := []) (rest := []) (dc := 1) oc_129_93 rfl rfl rfl oO_32 rfl rfl rfl rfl (by decide) (R135  hy6) ?_
                  cases h
                  exact ev_iret od_129_96 rfl hP
                · rw [if_pos hc8] at h
                  refine ev_aload_n od_129_79 rfl ?_
                  refine ev_gf (v := .ref 32) og_129_80 oO_1 rfl ?_
                  obtain ⟨y7, hy7, h⟩ := ov_bd h
                  try dsimp only at h
                  refine ev_cvi (y := 134) (n := 0) (a := 32) (c := 7) (as := []) (rest := []) (dc := 1) oc_129_83 rfl rfl rfl oO_32 rfl rfl rfl rfl (by decide) (R134  hy7) ?_
                  refine ev_goto (t := 96) od_129_86 (by decide) ?_
                  cases h
                  exact ev_iret od_129_96 rfl hP
              · rw [if_neg hc9] at h
                refine ev_bipush (v := (-3 : Int32)) od_129_63 (by decide) ?_
                cases h
                exact ev_iret od_129_65 rfl hP
          · rw [if_neg hc11] at h
            refine ev_bipush (v := (-2 : Int32)) od_129_38 (by decide) ?_
            cases h
            exact ev_iret od_129_40 rfl hP
    · rw [if_pos hc14] at h
      refine ev_iconst (v := (-1 : Int32)) od_129_22 (by decide) ?_
      cases h
      exact ev_iret od_129_23 rfl hP
theorem R129 {L : Nat} {S : ov_S} {G : ov_L2} {x1 : Int32} {x2 : Int32} {x3 : Int32}  {out : Int32 × ov_S} (h : f129 S x1 x2 x3 = some out) : ov_R L 8 129 [.ref 1, .int x1, .int x2, .int x3] S G (some (.int out.1)) out.2 G :=
  ov_Rof (t129  h ⟨rfl, rfl, rfl⟩)
-- 202 OEModel.order
def f202 (S : ov_S) (x1 : Int32) : Option (Int32 × ov_S) :=
  (f203 (ov_up S 42 0 (0 : Int32))).bind fun y1 => (if x1 = 0 then some ((y1 42 37), y1) else some ((y1 42 36), y1))
theorem t202 {L : Nat} {S : ov_S} {G : ov_L2} {x1 : Int32} {P : Option Value → ov_S → ov_L2 → Prop}  {out : Int32 × ov_S} (h : f202 S x1 = some out) (hP : P (some (.int out.1)) out.2 G) : ov_J L 7 202 0 [some (.ref 42), some (.int x1)] [] S G P := by
  unfold f202 at h
  refine ev_aload_n od_202_0 rfl ?_
  refine ev_iconst (v := (0 : Int32)) od_202_1 (by decide) ?_
  refine ev_pf op_202_2 oO_42 rfl rfl ?_
  refine ev_aload_n od_202_5 rfl ?_
  obtain ⟨y1, hy1, h⟩ := ov_bd h
  try dsimp only at h
  refine ev_cvv (y := 203) (n := 0) (a := 42) (c := 8) (as := []) (rest := []) (dc := 7) oc_202_6 rfl rfl rfl oO_42 rfl rfl rfl rfl (by decide) (R203  hy1) ?_
  refine ev_iload_n od_202_9 rfl ?_
  refine ev_if_eq (t := 20) od_202_10 (by decide) (fun hc2 => ?_) (fun hc2 => ?_)
  · rw [if_pos hc2] at h
    refine ev_aload_n od_202_20 rfl ?_
    refine ev_gf (v := .int (y1 42 37)) og_202_21 oO_42 rfl ?_
    cases h
    exact ev_iret od_202_24 rfl hP
  · rw [if_neg hc2] at h
    refine ev_aload_n od_202_13 rfl ?_
    refine ev_gf (v := .int (y1 42 36)) og_202_14 oO_42 rfl ?_
    refine ev_goto (t := 24) od_202_17 (by decide) ?_
    cases h
    exact ev_iret od_202_24 rfl hP
theorem R202 {L : Nat} {S : ov_S} {G : ov_L2} {x1 : Int32}  {out : Int32 × ov_S} (h : f202 S x1 = some out) : ov_R L 8 202 [.ref 42, .int x1] S G (some (.int out.1)) out.2 G :=
  ov_Rof (t202  h ⟨rfl, rfl, rfl⟩)
