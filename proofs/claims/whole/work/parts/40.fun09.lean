-- 78 OE$Stage.stepOn
def f78 (a : Nat) (S : ov_S) (x1 : Int32) (x2 : Int32) : Option (Int32 × ov_S) :=
  (f35 a S x1).bind fun y1 => (f79 y1 x2).bind fun y2 => (f29 4 S x1).bind fun y3 => (if y3 = 0 then some ((0 : Int32), S) else (f66 a S x1).bind fun y4 => (f23 y4 y2).bind fun y5 => (if y5 = 0 then some ((0 : Int32), S) else ov_ck (ov_ibb x1 6) (some ((1 : Int32), (ov_up (ov_up S (a + 1) (x1).toNatClampNeg y2) a 4 (((ov_up S (a + 1) (x1).toNatClampNeg y2) a 4) + (1 : Int32)))))))
theorem t78 {L : Nat} {S : ov_S} {G : ov_L2} {a : Nat} {x1 : Int32} {x2 : Int32} {P : Option Value → ov_S → ov_L2 → Prop} (ha : ov_St a) {out : Int32 × ov_S} (h : f78 a S x1 x2 = some out) (hP : P (some (.int out.1)) out.2 G) : ov_J L 4 78 0 [some (.ref a), some (.int x1), some (.int x2), none] [] S G P := by
  unfold f78 at h
  refine ev_aload_n od_78_0 rfl ?_
  refine ev_iload_n od_78_1 rfl ?_
  obtain ⟨y1, hy1, h⟩ := ov_bd h
  try dsimp only at h
  refine ev_cvi (y := 35) (n := 1) (a := a) (c := 3) (as := [.int x1]) (rest := []) (dc := 2) oc_78_2 rfl rfl rfl (st_O ha) rfl rfl rfl rfl (by decide) (R35 ha hy1) ?_
  refine ev_iload_n od_78_5 rfl ?_
  obtain ⟨y2, hy2, h⟩ := ov_bd h
  try dsimp only at h
  refine ev_csi (y := 79) (n := 2) (as := [.int y1, .int x2]) (rest := []) (dc := 2) oc_78_6 rfl rfl rfl rfl rfl (by decide) (R79  hy2) ?_
  refine ev_istore_n (lv1 := [some (.ref a), some (.int x1), some (.int x2), some (.int y2)]) od_78_9 rfl rfl ?_
  refine ev_aload_n od_78_10 rfl ?_
  refine ev_gf (v := .ref 4) og_78_11 (st_O ha) (st_v0 ha) ?_
  refine ev_iload_n od_78_14 rfl ?_
  obtain ⟨y3, hy3, h⟩ := ov_bd h
  try dsimp only at h
  refine ev_cvi (y := 29) (n := 1) (a := 4) (c := 2) (as := [.int x1]) (rest := []) (dc := 1) oc_78_15 rfl rfl rfl oO_4 rfl rfl rfl rfl (by decide) (R29 oP_4 hy3) ?_
  refine ev_if_eq (t := 33) od_78_18 (by decide) (fun hc8 => ?_) (fun hc8 => ?_)
  · rw [if_pos hc8] at h
    refine ev_iconst (v := (0 : Int32)) od_78_33 (by decide) ?_
    cases h
    exact ev_zret od_78_34 rfl (by decide) hP
  · rw [if_neg hc8] at h
    refine ev_aload_n od_78_21 rfl ?_
    refine ev_iload_n od_78_22 rfl ?_
    obtain ⟨y4, hy4, h⟩ := ov_bd h
    try dsimp only at h
    refine ev_cvi (y := 66) (n := 1) (a := a) (c := 3) (as := [.int x1]) (rest := []) (dc := 4) oc_78_23 rfl rfl rfl (st_O ha) rfl rfl rfl rfl (by decide) (R66 ha hy4) ?_
    refine ev_iload_n od_78_26 rfl ?_
    obtain ⟨y5, hy5, h⟩ := ov_bd h
    try dsimp only at h
    refine ev_csi (y := 23) (n := 2) (as := [.int y4, .int y2]) (rest := []) (dc := 1) oc_78_27 rfl rfl rfl rfl rfl (by decide) (R23  hy5) ?_
    refine ev_if_ne (t := 35) od_78_30 (by decide) (fun hc7 => ?_) (fun hc7 => ?_)
    · rw [if_neg hc7] at h
      refine ev_aload_n od_78_35 rfl ?_
      refine ev_gf (v := .ref (a + 1)) og_78_36 (st_O ha) (st_v1 ha) ?_
      refine ev_iload_n od_78_39 rfl ?_
      refine ev_iload_n od_78_40 rfl ?_
      obtain ⟨bq6, h⟩ := ov_ck_ok h
      refine ev_iast od_78_41 (st_A1 ha) (st_i1 ha bq6) ?_
      refine ev_aload_n od_78_42 rfl ?_
      refine ev_dup od_78_43 rfl ?_
      refine ev_gf (v := .int ((ov_up S (a + 1) (x1).toNatClampNeg y2) a 4)) og_78_44 (st_O ha) (st_v4 ha) ?_
      refine ev_iconst (v := (1 : Int32)) od_78_47 (by decide) ?_
      refine ev_iadd od_78_48 ?_
      refine ev_pf op_78_49 (st_O ha) (st_c4 ha) rfl ?_
      refine ev_iconst (v := (1 : Int32)) od_78_52 (by decide) ?_
      cases h
      exact ev_zret od_78_53 rfl (by decide) hP
    · rw [if_pos hc7] at h
      refine ev_iconst (v := (0 : Int32)) od_78_33 (by decide) ?_
      cases h
      exact ev_zret od_78_34 rfl (by decide) hP
theorem R78 {L : Nat} {S : ov_S} {G : ov_L2} {a : Nat} {x1 : Int32} {x2 : Int32} (ha : ov_St a) {out : Int32 × ov_S} (h : f78 a S x1 x2 = some out) : ov_R L 5 78 [.ref a, .int x1, .int x2] S G (some (.int out.1)) out.2 G :=
  ov_Rof (t78 ha h ⟨rfl, rfl, rfl⟩)
-- 81 OE$Stage.speak
def f81 (a : Nat) (S : ov_S) (x1 : Int32) : Option (Int32 × ov_S) :=
  (f42 a S (63 : Int32)).bind fun y1 => (f23 y1 x1).bind fun y2 => (if y2 = 0 then some ((0 : Int32), S) else (f27 (S a 3) x1).bind fun y3 => some ((1 : Int32), (ov_up (ov_up S a 3 y3) a 4 (((ov_up S a 3 y3) a 4) + (1 : Int32)))))
theorem t81 {L : Nat} {S : ov_S} {G : ov_L2} {a : Nat} {x1 : Int32} {P : Option Value → ov_S → ov_L2 → Prop} (ha : ov_St a) {out : Int32 × ov_S} (h : f81 a S x1 = some out) (hP : P (some (.int out.1)) out.2 G) : ov_J L 4 81 0 [some (.ref a), some (.int x1)] [] S G P := by
  unfold f81 at h
  refine ev_aload_n od_81_0 rfl ?_
  refine ev_bipush (v := (63 : Int32)) od_81_1 (by decide) ?_
  obtain ⟨y1, hy1, h⟩ := ov_bd h
  try dsimp only at h
  refine ev_cvi (y := 42) (n := 1) (a := a) (c := 3) (as := [.int (63 : Int32)]) (rest := []) (dc := 4) oc_81_3 rfl rfl rfl (st_O ha) rfl rfl rfl rfl (by decide) (R42 ha hy1) ?_
  refine ev_iload_n od_81_6 rfl ?_
  obtain ⟨y2, hy2, h⟩ := ov_bd h
  try dsimp only at h
  refine ev_csi (y := 23) (n := 2) (as := [.int y1, .int x1]) (rest := []) (dc := 1) oc_81_7 rfl rfl rfl rfl rfl (by decide) (R23  hy2) ?_
  refine ev_if_ne (t := 15) od_81_10 (by decide) (fun hc4 => ?_) (fun hc4 => ?_)
  · rw [if_neg hc4] at h
    refine ev_aload_n od_81_15 rfl ?_
    refine ev_aload_n od_81_16 rfl ?_
    refine ev_gf (v := .int (S a 3)) og_81_17 (st_O ha) (st_v3 ha) ?_
    refine ev_iload_n od_81_20 rfl ?_
    obtain ⟨y3, hy3, h⟩ := ov_bd h
    try dsimp only at h
    refine ev_csi (y := 27) (n := 2) (as := [.int (S a 3), .int x1]) (rest := [.ref a]) (dc := 1) oc_81_21 rfl rfl rfl rfl rfl (by decide) (R27  hy3) ?_
    refine ev_pf op_81_24 (st_O ha) (st_c3 ha) rfl ?_
    refine ev_aload_n od_81_27 rfl ?_
    refine ev_dup od_81_28 rfl ?_
    refine ev_gf (v := .int ((ov_up S a 3 y3) a 4)) og_81_29 (st_O ha) (st_v4 ha) ?_
    refine ev_iconst (v := (1 : Int32)) od_81_32 (by decide) ?_
    refine ev_iadd od_81_33 ?_
    refine ev_pf op_81_34 (st_O ha) (st_c4 ha) rfl ?_
    refine ev_iconst (v := (1 : Int32)) od_81_37 (by decide) ?_
    cases h
    exact ev_zret od_81_38 rfl (by decide) hP
  · rw [if_pos hc4] at h
    refine ev_iconst (v := (0 : Int32)) od_81_13 (by decide) ?_
    cases h
    exact ev_zret od_81_14 rfl (by decide) hP
theorem R81 {L : Nat} {S : ov_S} {G : ov_L2} {a : Nat} {x1 : Int32} (ha : ov_St a) {out : Int32 × ov_S} (h : f81 a S x1 = some out) : ov_R L 5 81 [.ref a, .int x1] S G (some (.int out.1)) out.2 G :=
  ov_Rof (t81 ha h ⟨rfl, rfl, rfl⟩)
-- 82 OE.shift
def f82 (S : ov_S) (x1 : Int32) (x2 : Int32) : Option (Int32 × ov_S) :=
  (f7 4 S x1).bind fun y1 => (if y1 = 0 then some ((-1 : Int32), S) else (f49 x2).bind fun y2 => (if y2 = 0 then some ((-1 : Int32), S) else (f61 18 S x1).bind fun y3 => (f83 18 S x1 x2).bind fun y4 => (if y4.1 = 0 then some ((-3 : Int32), y4.2) else (f75 y4.2 (2 : Int32) x1 y3).bind fun y5 => some (y3, y5))))
theorem t82 {L : Nat} {S : ov_S} {G : ov_L2} {x1 : Int32} {x2 : Int32} {P : Option Value → ov_S → ov_L2 → Prop}  {out : Int32 × ov_S} (h : f82 S x1 x2 = some out) (hP : P (some (.int out.1)) out.2 G) : ov_J L 4 82 0 [some (.ref 1), some (.int x1), some (.int x2), none] [] S G P := by
  unfold f82 at h
  refine ev_aload_n od_82_0 rfl ?_
  refine ev_gf (v := .ref 4) og_82_1 oO_1 rfl ?_
  refine ev_iload_n od_82_4 rfl ?_
  obtain ⟨y1, hy1, h⟩ := ov_bd h
  try dsimp only at h
  refine ev_cvi (y := 7) (n := 1) (a := 4) (c := 2) (as := [.int x1]) (rest := []) (dc := 1) oc_82_5 rfl rfl rfl oO_4 rfl rfl rfl rfl (by decide) (R7 oP_4 hy1) ?_
  refine ev_if_eq (t := 18) od_82_8 (by decide) (fun hc8 => ?_) (fun hc8 => ?_)
  · rw [if_pos hc8] at h
    refine ev_iconst (v := (-1 : Int32)) od_82_18 (by decide) ?_
    cases h
    exact ev_iret od_82_19 rfl hP
  · rw [if_neg hc8] at h
    refine ev_iload_n od_82_11 rfl ?_
    obtain ⟨y2, hy2, h⟩ := ov_bd h
    try dsimp only at h
    refine ev_csi (y := 49) (n := 1) (as := [.int x2]) (rest := []) (dc := 1) oc_82_12 rfl rfl rfl rfl rfl (by decide) (R49  hy2) ?_
    refine ev_if_ne (t := 20) od_82_15 (by decide) (fun hc7 => ?_) (fun hc7 => ?_)
    · rw [if_neg hc7] at h
      refine ev_aload_n od_82_20 rfl ?_
      refine ev_gf (v := .ref 18) og_82_21 oO_1 rfl ?_
      refine ev_iload_n od_82_24 rfl ?_
      obtain ⟨y3, hy3, h⟩ := ov_bd h
      try dsimp only at h
      refine ev_cvi (y := 61) (n := 1) (a := 18) (c := 3) (as := [.int x1]) (rest := []) (dc := 2) oc_82_25 rfl rfl rfl oO_18 rfl rfl rfl rfl (by decide) (R61 oS_18 hy3) ?_
      refine ev_istore_n (lv1 := [some (.ref 1), some (.int x1), some (.int x2), some (.int y3)]) od_82_28 rfl rfl ?_
      refine ev_aload_n od_82_29 rfl ?_
      refine ev_gf (v := .ref 18) og_82_30 oO_1 rfl ?_
      refine ev_iload_n od_82_33 rfl ?_
      refine ev_iload_n od_82_34 rfl ?_
      obtain ⟨y4, hy4, h⟩ := ov_bd h
      try dsimp only at h
      refine ev_cvi (y := 83) (n := 2) (a := 18) (c := 3) (as := [.int x1, .int x2]) (rest := []) (dc := 4) oc_82_35 rfl rfl rfl oO_18 rfl rfl rfl rfl (by decide) (R83 oS_18 hy4) ?_
      refine ev_if_ne (t := 44) od_82_38 (by decide) (fun hc6 => ?_) (fun hc6 => ?_)
      · rw [if_neg hc6] at h
        refine ev_aload_n od_82_44 rfl ?_
        refine ev_gf (v := .ref 24) og_82_45 oO_1 rfl ?_
        refine ev_iconst (v := (2 : Int32)) od_82_48 (by decide) ?_
        refine ev_iload_n od_82_49 rfl ?_
        refine ev_iload_n od_82_50 rfl ?_
        obtain ⟨y5, hy5, h⟩ := ov_bd h
        try dsimp only at h
        refine ev_cvv (y := 75) (n := 3) (a := 24) (c := 4) (as := [.int (2 : Int32), .int x1, .int y3]) (rest := []) (dc := 2) oc_82_51 rfl rfl rfl oO_24 rfl rfl rfl rfl (by decide) (R75  hy5) ?_
        refine ev_iload_n od_82_54 rfl ?_
        cases h
        exact ev_iret od_82_55 rfl hP
      · rw [if_pos hc6] at h
        refine ev_bipush (v := (-3 : Int32)) od_82_41 (by decide) ?_
        cases h
        exact ev_iret od_82_43 rfl hP
    · rw [if_pos hc7] at h
      refine ev_iconst (v := (-1 : Int32)) od_82_18 (by decide) ?_
      cases h
      exact ev_iret od_82_19 rfl hP
theorem R82 {L : Nat} {S : ov_S} {G : ov_L2} {x1 : Int32} {x2 : Int32}  {out : Int32 × ov_S} (h : f82 S x1 x2 = some out) : ov_R L 5 82 [.ref 1, .int x1, .int x2] S G (some (.int out.1)) out.2 G :=
  ov_Rof (t82  h ⟨rfl, rfl, rfl⟩)
-- 93 OE.way
def f93 (S : ov_S) (x1 : Int32) (x2 : Int32) : Option (Int32) :=
  (f29 4 S x1).bind fun y1 => (if y1 = 0 then some (-1 : Int32) else (f49 x2).bind fun y2 => (if y2 = 0 then some (-1 : Int32) else (f34 18 S x1).bind fun y3 => (if y3 = 0 then some (-3 : Int32) else (f35 18 S x1).bind fun y4 => (f66 18 S x1).bind fun y5 => (f94 y4 x2 y5).bind fun y6 => some y6)))
theorem t93 {L : Nat} {S : ov_S} {G : ov_L2} {x1 : Int32} {x2 : Int32} {P : Option Value → ov_S → ov_L2 → Prop}  {out : Int32} (h : f93 S x1 x2 = some out) (hP : P (some (.int out)) S G) : ov_J L 4 93 0 [some (.ref 1), some (.int x1), some (.int x2)] [] S G P := by
  unfold f93 at h
  refine ev_aload_n od_93_0 rfl ?_
  refine ev_gf (v := .ref 4) og_93_1 oO_1 rfl ?_
  refine ev_iload_n od_93_4 rfl ?_
  obtain ⟨y1, hy1, h⟩ := ov_bd h
  try dsimp only at h
  refine ev_cvi (y := 29) (n := 1) (a := 4) (c := 2) (as := [.int x1]) (rest := []) (dc := 1) oc_93_5 rfl rfl rfl oO_4 rfl rfl rfl rfl (by decide) (R29 oP_4 hy1) ?_
  refine ev_if_eq (t := 18) od_93_8 (by decide) (fun hc9 => ?_) (fun hc9 => ?_)
  · rw [if_pos hc9] at h
    refine ev_iconst (v := (-1 : Int32)) od_93_18 (by decide) ?_
    cases h
    exact ev_iret od_93_19 rfl hP
  · rw [if_neg hc9] at h
    refine ev_iload_n od_93_11 rfl ?_
    obtain ⟨y2, hy2, h⟩ := ov_bd h
    try dsimp only at h
    refine ev_csi (y := 49) (n := 1) (as := [.int x2]) (rest := []) (dc := 1) oc_93_12 rfl rfl rfl rfl rfl (by decide) (R49  hy2) ?_
    refine ev_if_ne (t := 20) od_93_15 (by decide) (fun hc8 => ?_) (fun hc8 => ?_)
    · rw [if_neg hc8] at h
      refine ev_aload_n od_93_20 rfl ?_
      refine ev_gf (v := .ref 18) og_93_21 oO_1 rfl ?_
      refine ev_iload_n od_93_24 rfl ?_
      obtain ⟨y3, hy3, h⟩ := ov_bd h
      try dsimp only at h
      refine ev_cvi (y := 34) (n := 1) (a := 18) (c := 3) (as := [.int x1]) (rest := []) (dc := 3) oc_93_25 rfl rfl rfl oO_18 rfl rfl rfl rfl (by decide) (R34 oS_18 hy3) ?_
      refine ev_if_ne (t := 34) od_93_28 (by decide) (fun hc7 => ?_) (fun hc7 => ?_)
      · rw [if_neg hc7] at h
        refine ev_aload_n od_93_34 rfl ?_
        refine ev_gf (v := .ref 18) og_93_35 oO_1 rfl ?_
        refine ev_iload_n od_93_38 rfl ?_
        obtain ⟨y4, hy4, h⟩ := ov_bd h
        try dsimp only at h
        refine ev_cvi (y := 35) (n := 1) (a := 18) (c := 3) (as := [.int x1]) (rest := []) (dc := 2) oc_93_39 rfl rfl rfl oO_18 rfl rfl rfl rfl (by decide) (R35 oS_18 hy4) ?_
        refine ev_iload_n od_93_42 rfl ?_
        refine ev_aload_n od_93_43 rfl ?_
        refine ev_gf (v := .ref 18) og_93_44 oO_1 rfl ?_
        refine ev_iload_n od_93_47 rfl ?_
        obtain ⟨y5, hy5, h⟩ := ov_bd h
        try dsimp only at h
        refine ev_cvi (y := 66) (n := 1) (a := 18) (c := 3) (as := [.int x1]) (rest := [.int x2, .int y4]) (dc := 4) oc_93_48 rfl rfl rfl oO_18 rfl rfl rfl rfl (by decide) (R66 oS_18 hy5) ?_
        obtain ⟨y6, hy6, h⟩ := ov_bd h
        try dsimp only at h
        refine ev_csi (y := 94) (n := 3) (as := [.int y4, .int x2, .int y5]) (rest := []) (dc := 2) oc_93_51 rfl rfl rfl rfl rfl (by decide) (R94  hy6) ?_
        cases h
        exact ev_iret od_93_54 rfl hP
      · rw [if_pos hc7] at h
        refine ev_bipush (v := (-3 : Int32)) od_93_31 (by decide) ?_
        cases h
        exact ev_iret od_93_33 rfl hP
    · rw [if_pos hc8] at h
      refine ev_iconst (v := (-1 : Int32)) od_93_18 (by decide) ?_
      cases h
      exact ev_iret od_93_19 rfl hP
theorem R93 {L : Nat} {S : ov_S} {G : ov_L2} {x1 : Int32} {x2 : Int32}  {out : Int32} (h : f93 S x1 x2 = some out) : ov_R L 5 93 [.ref 1, .int x1, .int x2] S G (some (.int out)) S G :=
  ov_Rof (t93  h ⟨rfl, rfl, rfl⟩)
-- 98 OE.heardFrom
def f98 (S : ov_S) (x1 : Int32) (x2 : Int32) : Option (Int32 × ov_S) :=
  (f90 21 S x1 x2).bind fun y1 => (f42 21 y1 (63 : Int32)).bind fun y2 => (f99 4 y1 x1).bind fun y3 => (f69 (y2 &&& y3)).bind fun y4 => some (y4, y1)
theorem t98 {L : Nat} {S : ov_S} {G : ov_L2} {x1 : Int32} {x2 : Int32} {P : Option Value → ov_S → ov_L2 → Prop}  {out : Int32 × ov_S} (h : f98 S x1 x2 = some out) (hP : P (some (.int out.1)) out.2 G) : ov_J L 4 98 0 [some (.ref 1), some (.int x1), some (.int x2)] [] S G P := by
  unfold f98 at h
  refine ev_aload_n od_98_0 rfl ?_
  refine ev_gf (v := .ref 21) og_98_1 oO_1 rfl ?_
  refine ev_iload_n od_98_4 rfl ?_
  refine ev_iload_n od_98_5 rfl ?_
  obtain ⟨y1, hy1, h⟩ := ov_bd h
  try dsimp only at h
  refine ev_cvv (y := 90) (n := 2) (a := 21) (c := 3) (as := [.int x1, .int x2]) (rest := []) (dc := 2) oc_98_6 rfl rfl rfl oO_21 rfl rfl rfl rfl (by decide) (R90 oS_21 hy1) ?_
  refine ev_aload_n od_98_9 rfl ?_
  refine ev_gf (v := .ref 21) og_98_10 oO_1 rfl ?_
  refine ev_bipush (v := (63 : Int32)) od_98_13 (by decide) ?_
  obtain ⟨y2, hy2, h⟩ := ov_bd h
  try dsimp only at h
  refine ev_cvi (y := 42) (n := 1) (a := 21) (c := 3) (as := [.int (63 : Int32)]) (rest := []) (dc := 4) oc_98_15 rfl rfl rfl oO_21 rfl rfl rfl rfl (by decide) (R42 oS_21 hy2) ?_
  refine ev_aload_n od_98_18 rfl ?_
  refine ev_gf (v := .ref 4) og_98_19 oO_1 rfl ?_
  refine ev_iload_n od_98_22 rfl ?_
  obtain ⟨y3, hy3, h⟩ := ov_bd h
  try dsimp only at h
  refine ev_cvi (y := 99) (n := 1) (a := 4) (c := 2) (as := [.int x1]) (rest := [.int y2]) (dc := 3) oc_98_23 rfl rfl rfl oO_4 rfl rfl rfl rfl (by decide) (R99 oP_4 hy3) ?_
  refine ev_iand od_98_26 ?_
  obtain ⟨y4, hy4, h⟩ := ov_bd h
  try dsimp only at h
  refine ev_csi (y := 69) (n := 1) (as := [.int (y2 &&& y3)]) (rest := []) (dc := 1) oc_98_27 rfl rfl rfl rfl rfl (by decide) (R69  hy4) ?_
  cases h
  exact ev_iret od_98_30 rfl hP
theorem R98 {L : Nat} {S : ov_S} {G : ov_L2} {x1 : Int32} {x2 : Int32}  {out : Int32 × ov_S} (h : f98 S x1 x2 = some out) : ov_R L 5 98 [.ref 1, .int x1, .int x2] S G (some (.int out.1)) out.2 G :=
  ov_Rof (t98  h ⟨rfl, rfl, rfl⟩)
-- 101 OE$Stage.bringOn
def b101_66 (a : Nat) (x1 : Int32) (x3 : Int32) (x5 : Int32) (x6 : Int32) (x7 : Int32) (x8 : Int32) (x9 : Int32) (S : ov_S) : Option ((Int32 × Int32 × Int32 × ov_S) ⊕ ((ov_S) ⊕ (Int32 × ov_S))) :=
  (if (18 : Int32) ≤ x9 then some (.inr (.inl S)) else (if x7 = 0 then some (.inr (.inl S)) else (if (x7 &&& x6) = 0 then (f68 x8 x5).bind fun y7 => some (.inl (y7, (x8 ||| y7), (x9 + (1 : Int32)), S)) else (f102 (x7 &&& x6)).bind fun y8 => (f90 a S x1 y8).bind fun y9 => some (.inr (.inr (x9, y9))))))
theorem bt101_66 {L : Nat} {S : ov_S} {G : ov_L2} {a : Nat} {x1 : Int32} {x3 : Int32} {x5 : Int32} {x6 : Int32} {x7 : Int32} {x8 : Int32} {x9 : Int32} {P : Option Value → ov_S → ov_L2 → Prop} (ha : ov_St a) {out : (Int32 × Int32 × Int32 × ov_S) ⊕ ((ov_S) ⊕ (Int32 × ov_S))} (h : b101_66 a x1 x3 x5 x6 x7 x8 x9 S = some out) (hk : ov_sm (σ := Int32 × Int32 × Int32 × ov_S) (ε := ((ov_S) ⊕ (Int32 × ov_S))) (fun s => ov_J L 4 101 66 [some (.ref a), some (.int x1), none, some (.int x3), none, some (.int x5), some (.int x6), some (.int s.1), some (.int s.2.1), some (.int s.2.2.1)] [] s.2.2.2 G P) (ov_sm (fun e => ov_J L 4 101 124 [some (.ref a), some (.int x1), none, some (.int x3), none, none, none, none, none, none] [] e G P) (fun t => P (some (.int t.1)) t.2 G)) out) : ov_J L 4 101 66 [some (.ref a), some (.int x1), none, some (.int x3), none, some (.int x5), some (.int x6), some (.int x7), some (.int x8), some (.int x9)] [] S G P := by
  unfold b101_66 at h
  refine ev_iload od_101_66 rfl ?_
  refine ev_bipush (v := (18 : Int32)) od_101_68 (by decide) ?_
  refine ev_icmp_ge (t := 124) od_101_70 (by decide) (fun hc12 => ?_) (fun hc12 => ?_)
  · rw [if_pos hc12] at h
    cases h
    refine ev_fg (lv0 := [some (.ref a), some (.int x1), none, some (.int x3), none, none, none, none, none, none]) (ov_le_s (ov_le_s (ov_le_n (ov_le_s (ov_le_n (ov_le_n (ov_le_n (ov_le_n (ov_le_n (ov_le_n (ov_le_e))))))))))) ?_
    exact hk
  · rw [if_neg hc12] at h
    refine ev_iload od_101_73 rfl ?_
    refine ev_if_eq (t := 124) od_101_75 (by decide) (fun hc11 => ?_) (fun hc11 => ?_)
    · rw [if_pos hc11] at h
      cases h
      refine ev_fg (lv0 := [some (.ref a), some (.int x1), none, some (.int x3), none, none, none, none, none, none]) (ov_le_s (ov_le_s (ov_le_n (ov_le_s (ov_le_n (ov_le_n (ov_le_n (ov_le_n (ov_le_n (ov_le_n (ov_le_e))))))))))) ?_
      exact hk
    · rw [if_neg hc11] at h
      refine ev_iload od_101_78 rfl ?_
      refine ev_iload od_101_80 rfl ?_
      refine ev_iand od_101_82 ?_
      refine ev_if_eq (t := 102) od_101_83 (by decide) (fun hc10 => ?_) (fun hc10 => ?_)
      · rw [if_pos hc10] at h
        refine ev_iload od_101_102 rfl ?_
        refine ev_iload od_101_104 rfl ?_
        obtain ⟨y7, hy7, h⟩ := ov_bd h
        try dsimp only at h
        refine ev_csi (y := 68) (n := 2) (as := [.int x8, .int x5]) (rest := []) (dc := 1) oc_101_106 rfl rfl rfl rfl rfl (by decide) (R68  hy7) ?_
        refine ev_istore (lv1 := [some (.ref a), some (.int x1), none, some (.int x3), none, some (.int x5), some (.int x6), some (.int y7), some (.int x8), some (.int x9)]) od_101_109 rfl rfl ?_
        refine ev_iload od_101_111 rfl ?_
        refine ev_iload od_101_113 rfl ?_
        refine ev_ior od_101_115 ?_
        refine ev_istore (lv1 := [some (.ref a), some (.int x1), none, some (.int x3), none, some (.int x5), some (.int x6), some (.int y7), some (.int (x8 ||| y7)), some (.int x9)]) od_101_116 rfl rfl ?_
        refine ev_iinc (v := (x9 + (1 : Int32))) (lv1 := [some (.ref a), some (.int x1), none, some (.int x3), none, some (.int x5), some (.int x6), some (.int y7), some (.int (x8 ||| y7)), some (.int (x9 + (1 : Int32)))]) od_101_118 rfl rfl rfl ?_
        refine ev_goto (t := 66) od_101_121 (by decide) ?_
        cases h
        exact hk
      · rw [if_neg hc10] at h
        refine ev_aload_n od_101_86 rfl ?_
        refine ev_iload_n od_101_87 rfl ?_
        refine ev_iload od_101_88 rfl ?_
        refine ev_iload od_101_90 rfl ?_
        refine ev_iand od_101_92 ?_
        obtain ⟨y8, hy8, h⟩ := ov_bd h
        try dsimp only at h
        refine ev_csi (y := 102) (n := 1) (as := [.int (x7 &&& x6)]) (rest := [.int x1, .ref a]) (dc := 2) oc_101_93 rfl rfl rfl rfl rfl (by decide) (R102  hy8) ?_
        obtain ⟨y9, hy9, h⟩ := ov_bd h
        try dsimp only at h
        refine ev_cvv (y := 90) (n := 2) (a := a) (c := 3) (as := [.int x1, .int y8]) (rest := []) (dc := 2) oc_101_96 rfl rfl rfl (st_O ha) rfl rfl rfl rfl (by decide) (R90 ha hy9) ?_
        refine ev_iload od_101_99 rfl ?_
        cases h
        exact ev_iret od_101_101 rfl hk
def f101_124 (a : Nat) (S : ov_S) (x1 : Int32) (x3 : Int32) : Option (Int32 × ov_S) :=
  (f90 a S x1 x3).bind fun y15 => some ((0 : Int32), y15)
theorem t101_124 {L : Nat} {S : ov_S} {G : ov_L2} {a : Nat} {x1 : Int32} {x3 : Int32} {P : Option Value → ov_S → ov_L2 → Prop} (ha : ov_St a) {out : Int32 × ov_S} (h : f101_124 a S x1 x3 = some out) (hP : P (some (.int out.1)) out.2 G) : ov_J L 4 101 124 [some (.ref a), some (.int x1), none, some (.int x3), none, none, none, none, none, none] [] S G P := by
  unfold f101_124 at h
  refine ev_aload_n od_101_124 rfl ?_
  refine ev_iload_n od_101_125 rfl ?_
  refine ev_iload_n od_101_126 rfl ?_
  obtain ⟨y15, hy15, h⟩ := ov_bd h
  try dsimp only at h
  refine ev_cvv (y := 90) (n := 2) (a := a) (c := 3) (as := [.int x1, .int x3]) (rest := []) (dc := 2) oc_101_127 rfl rfl rfl (st_O ha) rfl rfl rfl rfl (by decide) (R90 ha hy15) ?_
  refine ev_iconst (v := (0 : Int32)) od_101_130 (by decide) ?_
  cases h
  exact ev_iret od_101_131 rfl hP
def f101_45 (a : Nat) (S : ov_S) (x1 : Int32) (x3 : Int32) (s0 : Int32) : Option (Int32 × ov_S) :=
  (f37 a S).bind fun y5 => (f24 x3).bind fun y6 => ((ov_lp (fun s => b101_66 a x1 x3 s0 y5 s.1 s.2.1 s.2.2.1 s.2.2.2) 2000 (y6, y6, (0 : Int32), S)).bind fun e13 => match e13 with | .inl e14 => f101_124 a e14 x1 x3 | .inr t => some t)
theorem t101_45 {L : Nat} {S : ov_S} {G : ov_L2} {a : Nat} {x1 : Int32} {x3 : Int32} {s0 : Int32} {P : Option Value → ov_S → ov_L2 → Prop} (ha : ov_St a) {out : Int32 × ov_S} (h : f101_45 a S x1 x3 s0 = some out) (hP : P (some (.int out.1)) out.2 G) : ov_J L 4 101 45 [some (.ref a), some (.int x1), none, some (.int x3), none, none, none, none, none, none] [.int s0] S G P := by
  unfold f101_45 at h
  refine ev_istore (lv1 := [some (.ref a), some (.int x1), none, some (.int x3), none, some (.int s0), none, none, none, none]) od_101_45 rfl rfl ?_
  refine ev_aload_n od_101_47 rfl ?_
  obtain ⟨y5, hy5, h⟩ := ov_bd h
  try dsimp only at h
  refine ev_cvi (y := 37) (n := 0) (a := a) (c := 3) (as := []) (rest := []) (dc := 4) oc_101_48 rfl rfl rfl (st_O ha) rfl rfl rfl rfl (by decide) (R37 ha hy5) ?_
  refine ev_istore (lv1 := [some (.ref a), some (.int x1), none, some (.int x3), none, some (.int s0), some (.int y5), none, none, none]) od_101_51 rfl rfl ?_
  refine ev_iload_n od_101_53 rfl ?_
  obtain ⟨y6, hy6, h⟩ := ov_bd h
  try dsimp only at h
  refine ev_csi (y := 24) (n := 1) (as := [.int x3]) (rest := []) (dc := 1) oc_101_54 rfl rfl rfl rfl rfl (by decide) (R24  hy6) ?_
  refine ev_istore (lv1 := [some (.ref a), some (.int x1), none, some (.int x3), none, some (.int s0), some (.int y5), some (.int y6), none, none]) od_101_57 rfl rfl ?_
  refine ev_iload od_101_59 rfl ?_
  refine ev_istore (lv1 := [some (.ref a), some (.int x1), none, some (.int x3), none, some (.int s0), some (.int y5), some (.int y6), some (.int y6), none]) od_101_61 rfl rfl ?_
  refine ev_iconst (v := (0 : Int32)) od_101_63 (by decide) ?_
  refine ev_istore (lv1 := [some (.ref a), some (.int x1), none, some (.int x3), none, some (.int s0), some (.int y5), some (.int y6), some (.int y6), some (.int (0 : Int32))]) od_101_64 rfl rfl ?_
  obtain ⟨e13, he13, h⟩ := ov_bd h
  try dsimp only at h
  refine ov_lp_S (body := (fun s => b101_66 a x1 x3 s0 y5 s.1 s.2.1 s.2.2.1 s.2.2.2)) (head := (fun s => ov_J L 4 101 66 [some (.ref a), some (.int x1), none, some (.int x3), none, some (.int s0), some (.int y5), some (.int s.1), some (.int s.2.1), some (.int s.2.2.1)] [] s.2.2.2 G P)) (exit := (ov_sm (fun e => ov_J L 4 101 124 [some (.ref a), some (.int x1), none, some (.int x3), none, none, none, none, none, none] [] e G P) (fun t => P (some (.int t.1)) t.2 G))) (fun s r hb hk => bt101_66 ha hb hk) 2000 (y6, y6, (0 : Int32), S) e13 he13 ?_
  rcases e13 with e14 | t
  · try dsimp only at h
    show ov_J L 4 101 124 [some (.ref a), some (.int x1), none, some (.int x3), none, none, none, none, none, none] [] e14 G P
    exact t101_124 ha h hP
  · cases h
    exact hP
def f101 (a : Nat) (S : ov_S) (x1 : Int32) (x2 : Int32) : Option (Int32 × ov_S) :=
  (f59 4 S x2).bind fun y1 => (f53 a S).bind fun y2 => (f23 y2 y1).bind fun y3 => (if y3 = 0 then some ((-9 : Int32), S) else (f64 4 S x1).bind fun y4 => (if y4 = (1 : Int32) then f101_45 a S x1 y1 (0 : Int32) else f101_45 a S x1 y1 y2))
theorem t101 {L : Nat} {S : ov_S} {G : ov_L2} {a : Nat} {x1 : Int32} {x2 : Int32} {P : Option Value → ov_S → ov_L2 → Prop} (ha : ov_St a) {out : Int32 × ov_S} (h : f101 a S x1 x2 = some out) (hP : P (some (.int out.1)) out.2 G) : ov_J L 4 101 0 [some (.ref a), some (.int x1), some (.int x2), none, none, none, none, none, none, none] [] S G P := by
  unfold f101 at h
  refine ev_aload_n od_101_0 rfl ?_
  refine ev_gf (v := .ref 4) og_101_1 (st_O ha) (st_v0 ha) ?_
  refine ev_iload_n od_101_4 rfl ?_
  obtain ⟨y1, hy1, h⟩ := ov_bd h
  try dsimp only at h
  refine ev_cvi (y := 59) (n := 1) (a := 4) (c := 2) (as := [.int x2]) (rest := []) (dc := 2) oc_101_5 rfl rfl rfl oO_4 rfl rfl rfl rfl (by decide) (R59 oP_4 hy1) ?_
  refine ev_istore_n (lv1 := [some (.ref a), some (.int x1), some (.int x2), some (.int y1), none, none, none, none, none, none]) od_101_8 rfl rfl ?_
  refine ev_aload_n od_101_9 rfl ?_
  obtain ⟨y2, hy2, h⟩ := ov_bd h
  try dsimp only at h
  refine ev_cvi (y := 53) (n := 0) (a := a) (c := 3) (as := []) (rest := []) (dc := 3) oc_101_10 rfl rfl rfl (st_O ha) rfl rfl rfl rfl (by decide) (R53 ha hy2) ?_
  refine ev_istore (lv1 := [some (.ref a), some (.int x1), some (.int x2), some (.int y1), some (.int y2), none, none, none, none, none]) od_101_13 rfl rfl ?_
  refine ev_iload od_101_15 rfl ?_
  refine ev_iload_n od_101_17 rfl ?_
  obtain ⟨y3, hy3, h⟩ := ov_bd h
  try dsimp only at h
  refine ev_csi (y := 23) (n := 2) (as := [.int y2, .int y1]) (rest := []) (dc := 1) oc_101_18 rfl rfl rfl rfl rfl (by decide) (R23  hy3) ?_
  refine ev_if_ne (t := 27) od_101_21 (by decide) (fun hc17 => ?_) (fun hc17 => ?_)
  · rw [if_neg hc17] at h
    refine ev_aload_n od_101_27 rfl ?_
    refine ev_gf (v := .ref 4) og_101_28 (st_O ha) (st_v0 ha) ?_
    refine ev_iload_n od_101_31 rfl ?_
    obtain ⟨y4, hy4, h⟩ := ov_bd h
    try dsimp only at h
    refine ev_cvi (y := 64) (n := 1) (a := 4) (c := 2) (as := [.int x1]) (rest := []) (dc := 2) oc_101_32 rfl rfl rfl oO_4 rfl rfl rfl rfl (by decide) (R64 oP_4 hy4) ?_
    refine ev_iconst (v := (1 : Int32)) od_101_35 (by decide) ?_
    refine ev_icmp_ne (t := 43) od_101_36 (by decide) (fun hc16 => ?_) (fun hc16 => ?_)
    · rw [if_neg hc16] at h
      refine ev_iload od_101_43 rfl ?_
      refine ev_fg (lv0 := [some (.ref a), some (.int x1), none, some (.int y1), none, none, none, none, none, none]) (ov_le_s (ov_le_s (ov_le_n (ov_le_s (ov_le_n (ov_le_n (ov_le_n (ov_le_n (ov_le_n (ov_le_n (ov_le_e))))))))))) ?_
      exact t101_45 ha h hP
    · rw [if_pos hc16] at h
      refine ev_iconst (v := (0 : Int32)) od_101_39 (by decide) ?_
      refine ev_goto (t := 45) od_101_40 (by decide) ?_
      refine ev_fg (lv0 := [some (.ref a), some (.int x1), none, some (.int y1), none, none, none, none, none, none]) (ov_le_s (ov_le_s (ov_le_n (ov_le_s (ov_le_n (ov_le_n (ov_le_n (ov_le_n (ov_le_n (ov_le_n (ov_le_e))))))))))) ?_
      exact t101_45 ha h hP
  · rw [if_pos hc17] at h
    refine ev_bipush (v := (-9 : Int32)) od_101_24 (by decide) ?_
    cases h
    exact ev_iret od_101_26 rfl hP
theorem R101 {L : Nat} {S : ov_S} {G : ov_L2} {a : Nat} {x1 : Int32} {x2 : Int32} (ha : ov_St a) {out : Int32 × ov_S} (h : f101 a S x1 x2 = some out) : ov_R L 5 101 [.ref a, .int x1, .int x2] S G (some (.int out.1)) out.2 G :=
  ov_Rof (t101 ha h ⟨rfl, rfl, rfl⟩)
-- 106 OE$Orders.weigh
def f106 (S : ov_S) (x1 : Int32) : Option (ov_S) :=
  (f42 21 S (63 : Int32)).bind fun y1 => (f69 y1).bind fun y2 => (if y2 ≤ (S 31 2) then some S else some (ov_up (ov_up S 31 2 y2) 31 3 x1))
theorem t106 {L : Nat} {S : ov_S} {G : ov_L2} {x1 : Int32} {P : Option Value → ov_S → ov_L2 → Prop}  {out : ov_S} (h : f106 S x1 = some out) (hP : P none out G) : ov_J L 4 106 0 [some (.ref 31), some (.int x1), none] [] S G P := by
  unfold f106 at h
  refine ev_aload_n od_106_0 rfl ?_
  refine ev_gf (v := .ref 21) og_106_1 oO_31 rfl ?_
  refine ev_bipush (v := (63 : Int32)) od_106_4 (by decide) ?_
  obtain ⟨y1, hy1, h⟩ := ov_bd h
  try dsimp only at h
  refine ev_cvi (y := 42) (n := 1) (a := 21) (c := 3) (as := [.int (63 : Int32)]) (rest := []) (dc := 4) oc_106_6 rfl rfl rfl oO_21 rfl rfl rfl rfl (by decide) (R42 oS_21 hy1) ?_
  obtain ⟨y2, hy2, h⟩ := ov_bd h
  try dsimp only at h
  refine ev_csi (y := 69) (n := 1) (as := [.int y1]) (rest := []) (dc := 1) oc_106_9 rfl rfl rfl rfl rfl (by decide) (R69  hy2) ?_
  refine ev_istore_n (lv1 := [some (.ref 31), some (.int x1), some (.int y2)]) od_106_12 rfl rfl ?_
  refine ev_iload_n od_106_13 rfl ?_
  refine ev_aload_n od_106_14 rfl ?_
  refine ev_gf (v := .int (S 31 2)) og_106_15 oO_31 rfl ?_
  refine ev_icmp_le (t := 31) od_106_18 (by decide) (fun hc3 => ?_) (fun hc3 => ?_)
  · rw [if_pos hc3] at h
    cases h
    exact ev_vret od_106_31 rfl hP
  · rw [if_neg hc3] at h
    refine ev_aload_n od_106_21 rfl ?_
    refine ev_iload_n od_106_22 rfl ?_
    refine ev_pf op_106_23 oO_31 rfl rfl ?_
    refine ev_aload_n od_106_26 rfl ?_
    refine ev_iload_n od_106_27 rfl ?_
    refine ev_pf op_106_28 oO_31 rfl rfl ?_
    cases h
    exact ev_vret od_106_31 rfl hP
theorem R106 {L : Nat} {S : ov_S} {G : ov_L2} {x1 : Int32}  {out : ov_S} (h : f106 S x1 = some out) : ov_R L 5 106 [.ref 31, .int x1] S G none out G :=
  ov_Rof (t106  h ⟨rfl, rfl, rfl⟩)
-- 113 OE$Stage.countHeard
def f113 (a : Nat) (S : ov_S) (x1 : Int32) : Option (Int32) :=
  (f42 a S x1).bind fun y1 => (f69 y1).bind fun y2 => some y2
theorem t113 {L : Nat} {S : ov_S} {G : ov_L2} {a : Nat} {x1 : Int32} {P : Option Value → ov_S → ov_L2 → Prop} (ha : ov_St a) {out : Int32} (h : f113 a S x1 = some out) (hP : P (some (.int out)) S G) : ov_J L 4 113 0 [some (.ref a), some (.int x1)] [] S G P := by
  unfold f113 at h
  refine ev_aload_n od_113_0 rfl ?_
  refine ev_iload_n od_113_1 rfl ?_
  obtain ⟨y1, hy1, h⟩ := ov_bd h
  try dsimp only at h
  refine ev_cvi (y := 42) (n := 1) (a := a) (c := 3) (as := [.int x1]) (rest := []) (dc := 4) oc_113_2 rfl rfl rfl (st_O ha) rfl rfl rfl rfl (by decide) (R42 ha hy1) ?_
  obtain ⟨y2, hy2, h⟩ := ov_bd h
  try dsimp only at h
  refine ev_csi (y := 69) (n := 1) (as := [.int y1]) (rest := []) (dc := 1) oc_113_5 rfl rfl rfl rfl rfl (by decide) (R69  hy2) ?_
  cases h
  exact ev_iret od_113_8 rfl hP
theorem R113 {L : Nat} {S : ov_S} {G : ov_L2} {a : Nat} {x1 : Int32} (ha : ov_St a) {out : Int32} (h : f113 a S x1 = some out) : ov_R L 5 113 [.ref a, .int x1] S G (some (.int out)) S G :=
  ov_Rof (t113 ha h ⟨rfl, rfl, rfl⟩)
-- 136 OE.gives
def f136_53_29 (S : ov_S) (x1 : Int32) (x2 : Int32) (x3 : Int32) (x4 : Int32) (x5 : Int32) : Option ((Int32 × Int32) ⊕ (Int32)) :=
  some (.inl (x4, (x5 + (1 : Int32))))
theorem t136_53_29 {L : Nat} {S : ov_S} {G : ov_L2} {x1 : Int32} {x2 : Int32} {x3 : Int32} {x4 : Int32} {x5 : Int32} {P : Option Value → ov_S → ov_L2 → Prop}  {out : (Int32 × Int32) ⊕ (Int32)} (h : f136_53_29 S x1 x2 x3 x4 x5 = some out) (hk : ov_sm (σ := Int32 × Int32) (ε := (Int32)) (fun s => ov_J L 4 136 29 [some (.ref 1), some (.int x1), some (.int x2), some (.int x3), some (.int s.1), some (.int s.2), none, none] [] S G P) (fun e => ov_J L 4 136 59 [none, some (.int x1), some (.int x2), some (.int x3), some (.int e), none, none, none] [] S G P) out) : ov_J L 4 136 53 [some (.ref 1), some (.int x1), some (.int x2), some (.int x3), some (.int x4), some (.int x5), none, none] [] S G P := by
  unfold f136_53_29 at h
  refine ev_iinc (v := (x5 + (1 : Int32))) (lv1 := [some (.ref 1), some (.int x1), some (.int x2), some (.int x3), some (.int x4), some (.int (x5 + (1 : Int32))), none, none]) od_136_53 rfl rfl rfl ?_
  refine ev_goto (t := 29) od_136_56 (by decide) ?_
  cases h
  exact hk
def b136_29 (S : ov_S) (x1 : Int32) (x2 : Int32) (x3 : Int32) (x4 : Int32) (x5 : Int32) : Option ((Int32 × Int32) ⊕ (Int32)) :=
  (if (6 : Int32) ≤ x5 then some (.inr x4) else (f72 18 S x5).bind fun y1 => (if y1 < (10 : Int32) then f136_53_29 S x1 x2 x3 x4 x5 else f136_53_29 S x1 x2 x3 (x4 + (1 : Int32)) x5))
theorem bt136_29 {L : Nat} {S : ov_S} {G : ov_L2} {x1 : Int32} {x2 : Int32} {x3 : Int32} {x4 : Int32} {x5 : Int32} {P : Option Value → ov_S → ov_L2 → Prop}  {out : (Int32 × Int32) ⊕ (Int32)} (h : b136_29 S x1 x2 x3 x4 x5 = some out) (hk : ov_sm (σ := Int32 × Int32) (ε := (Int32)) (fun s => ov_J L 4 136 29 [some (.ref 1), some (.int x1), some (.int x2), some (.int x3), some (.int s.1), some (.int s.2), none, none] [] S G P) (fun e => ov_J L 4 136 59 [none, some (.int x1), some (.int x2), some (.int x3), some (.int e), none, none, none] [] S G P) out) : ov_J L 4 136 29 [some (.ref 1), some (.int x1), some (.int x2), some (.int x3), some (.int x4), some (.int x5), none, none] [] S G P := by
  unfold b136_29 at h
  refine ev_iload od_136_29 rfl ?_
  refine ev_bipush (v := (6 : Int32)) od_136_31 (by decide) ?_
  refine ev_icmp_ge (t := 59) od_136_33 (by decide) (fun hc3 => ?_) (fun hc3 => ?_)
  · rw [if_pos hc3] at h
    cases h
    refine ev_fg (lv0 := [none, some (.int x1), some (.int x2), some (.int x3), some (.int x4), none, none, none]) (ov_le_n (ov_le_s (ov_le_s (ov_le_s (ov_le_s (ov_le_n (ov_le_n (ov_le_n (ov_le_e))))))))) ?_
    exact hk
  · rw [if_neg hc3] at h
    refine ev_aload_n od_136_36 rfl ?_
    refine ev_gf (v := .ref 18) og_136_37 oO_1 rfl ?_
    refine ev_iload od_136_40 rfl ?_
    obtain ⟨y1, hy1, h⟩ := ov_bd h
    try dsimp only at h
    refine ev_cvi (y := 72) (n := 1) (a := 18) (c := 3) (as := [.int x5]) (rest := []) (dc := 4) oc_136_42 rfl rfl rfl oO_18 rfl rfl rfl rfl (by decide) (R72 oS_18 hy1) ?_
    refine ev_bipush (v := (10 : Int32)) od_136_45 (by decide) ?_
    refine ev_icmp_lt (t := 53) od_136_47 (by decide) (fun hc2 => ?_) (fun hc2 => ?_)
    · rw [if_pos hc2] at h
      exact t136_53_29  h hk
    · rw [if_neg hc2] at h
      refine ev_iinc (v := (x4 + (1 : Int32))) (lv1 := [some (.ref 1), some (.int x1), some (.int x2), some (.int x3), some (.int (x4 + (1 : Int32))), some (.int x5), none, none]) od_136_50 rfl rfl rfl ?_
      exact t136_53_29  h hk
def b136_65 (S : ov_S) (x2 : Int32) (x3 : Int32) (x4 : Int32) (x5 : Int64) (x7 : Int32) : Option ((Int64 × Int32) ⊕ (Int64)) :=
  (if x4 < x7 then some (.inr x5) else (f137 x4 x7).bind fun y5 => (f115 x2 x7).bind fun y6 => (f115 ((10 : Int32) - x2) (x4 - x7)).bind fun y7 => some (.inl ((x5 + ((y5 * y6) * y7)), (x7 + (1 : Int32)))))
theorem bt136_65 {L : Nat} {S : ov_S} {G : ov_L2} {x2 : Int32} {x3 : Int32} {x4 : Int32} {x5 : Int64} {x7 : Int32} {P : Option Value → ov_S → ov_L2 → Prop}  {out : (Int64 × Int32) ⊕ (Int64)} (h : b136_65 S x2 x3 x4 x5 x7 = some out) (hk : ov_sm (σ := Int64 × Int32) (ε := (Int64)) (fun s => ov_J L 4 136 65 [none, none, some (.int x2), some (.int x3), some (.int x4), some (.long s.1), none, some (.int s.2)] [] S G P) (fun e => ov_J L 4 136 110 [none, none, none, some (.int x3), some (.int x4), some (.long e), none, none] [] S G P) out) : ov_J L 4 136 65 [none, none, some (.int x2), some (.int x3), some (.int x4), some (.long x5), none, some (.int x7)] [] S G P := by
  unfold b136_65 at h
  refine ev_iload od_136_65 rfl ?_
  refine ev_iload od_136_67 rfl ?_
  refine ev_icmp_gt (t := 110) od_136_69 (by decide) (fun hc8 => ?_) (fun hc8 => ?_)
  · rw [if_pos hc8] at h
    cases h
    refine ev_fg (lv0 := [none, none, none, some (.int x3), some (.int x4), some (.long x5), none, none]) (ov_le_n (ov_le_n (ov_le_n (ov_le_s (ov_le_s (ov_le_s (ov_le_n (ov_le_n (ov_le_e))))))))) ?_
    exact hk
  · rw [if_neg hc8] at h
    refine ev_lload od_136_72 rfl ?_
    refine ev_iload od_136_74 rfl ?_
    refine ev_iload od_136_76 rfl ?_
    obtain ⟨y5, hy5, h⟩ := ov_bd h
    try dsimp only at h
    refine ev_csl (y := 137) (n := 2) (as := [.int x4, .int x7]) (rest := [.long x5]) (dc := 1) oc_136_78 rfl rfl rfl rfl rfl (by decide) (R137  hy5) ?_
    refine ev_iload_n od_136_81 rfl ?_
    refine ev_iload od_136_82 rfl ?_
    obtain ⟨y6, hy6, h⟩ := ov_bd h
    try dsimp only at h
    refine ev_csl (y := 115) (n := 2) (as := [.int x2, .int x7]) (rest := [.long y5, .long x5]) (dc := 1) oc_136_84 rfl rfl rfl rfl rfl (by decide) (R115  hy6) ?_
    refine ev_lmul od_136_87 ?_
    refine ev_bipush (v := (10 : Int32)) od_136_88 (by decide) ?_
    refine ev_iload_n od_136_90 rfl ?_
    refine ev_isub od_136_91 ?_
    refine ev_iload od_136_92 rfl ?_
    refine ev_iload od_136_94 rfl ?_
    refine ev_isub od_136_96 ?_
    obtain ⟨y7, hy7, h⟩ := ov_bd h
    try dsimp only at h
    refine ev_csl (y := 115) (n := 2) (as := [.int ((10 : Int32) - x2), .int (x4 - x7)]) (rest := [.long (y5 * y6), .long x5]) (dc := 1) oc_136_97 rfl rfl rfl rfl rfl (by decide) (R115  hy7) ?_
    refine ev_lmul od_136_100 ?_
    refine ev_ladd od_136_101 ?_
    refine ev_lstore (lv1 := [none, none, some (.int x2), some (.int x3), some (.int x4), some (.long (x5 + ((y5 * y6) * y7))), none, some (.int x7)]) od_136_102 rfl rfl ?_
    refine ev_iinc (v := (x7 + (1 : Int32))) (lv1 := [none, none, some (.int x2), some (.int x3), some (.int x4), some (.long (x5 + ((y5 * y6) * y7))), none, some (.int (x7 + (1 : Int32)))]) od_136_104 rfl rfl rfl ?_
    refine ev_goto (t := 65) od_136_107 (by decide) ?_
    cases h
    exact hk
def f136 (S : ov_S) (x1 : Int32) (x2 : Int32) (x3 : Int32) : Option (Int32) :=
  (if x1 < 0 then some (-2 : Int32) else (if (6 : Int32) < x1 then some (-2 : Int32) else (if x2 < 0 then some (-2 : Int32) else (if x2 ≤ (10 : Int32) then ((ov_lp (fun s => b136_29 S x1 x2 x3 s.1 s.2) 2000 ((0 : Int32), (0 : Int32))).bind fun e4 => ((ov_lp (fun s => b136_65 S x2 x3 e4 s.1 s.2) 2000 ((0 : Int64), x1)).bind fun e9 => (f115 (10 : Int32) e4).bind fun y10 => (f119 e9 y10 x3).bind fun y11 => some y11)) else some (-2 : Int32)))))
theorem t136 {L : Nat} {S : ov_S} {G : ov_L2} {x1 : Int32} {x2 : Int32} {x3 : Int32} {P : Option Value → ov_S → ov_L2 → Prop}  {out : Int32} (h : f136 S x1 x2 x3 = some out) (hP : P (some (.int out)) S G) : ov_J L 4 136 0 [some (.ref 1), some (.int x1), some (.int x2), some (.int x3), none, none, none, none] [] S G P := by
  unfold f136 at h
  refine ev_iload_n od_136_0 rfl ?_
  refine ev_if_lt (t := 20) od_136_1 (by decide) (fun hc15 => ?_) (fun hc15 => ?_)
  · rw [if_pos hc15] at h
    refine ev_bipush (v := (-2 : Int32)) od_136_20 (by decide) ?_
    cases h
    exact ev_iret od_136_22 rfl hP
  · rw [if_neg hc15] at h
    refine ev_iload_n od_136_4 rfl ?_
    refine ev_bipush (v := (6 : Int32)) od_136_5 (by decide) ?_
    refine ev_icmp_gt (t := 20) od_136_7 (by decide) (fun hc14 => ?_) (fun hc14 => ?_)
    · rw [if_pos hc14] at h
      refine ev_bipush (v := (-2 : Int32)) od_136_20 (by decide) ?_
      cases h
      exact ev_iret od_136_22 rfl hP
    · rw [if_neg hc14] at h
      refine ev_iload_n od_136_10 rfl ?_
      refine ev_if_lt (t := 20) od_136_11 (by decide) (fun hc13 => ?_) (fun hc13 => ?_)
      · rw [if_pos hc13] at h
        refine ev_bipush (v := (-2 : Int32)) od_136_20 (by decide) ?_
        cases h
        exact ev_iret od_136_22 rfl hP
      · rw [if_neg hc13] at h
        refine ev_iload_n od_136_14 rfl ?_
        refine ev_bipush (v := (10 : Int32)) od_136_15 (by decide) ?_
        refine ev_icmp_le (t := 23) od_136_17 (by decide) (fun hc12 => ?_) (fun hc12 => ?_)
        · rw [if_pos hc12] at h
          refine ev_iconst (v := (0 : Int32)) od_136_23 (by decide) ?_
          refine ev_istore (lv1 := [some (.ref 1), some (.int x1), some (.int x2), some (.int x3), some (.int (0 : Int32)), none, none, none]) od_136_24 rfl rfl ?_
          refine ev_iconst (v := (0 : Int32)) od_136_26 (by decide) ?_
          refine ev_istore (lv1 := [some (.ref 1), some (.int x1), some (.int x2), some (.int x3), some (.int (0 : Int32)), some (.int (0 : Int32)), none, none]) od_136_27 rfl rfl ?_
          obtain ⟨e4, he4, h⟩ := ov_bd h
          try dsimp only at h
          refine ov_lp_S (body := (fun s => b136_29 S x1 x2 x3 s.1 s.2)) (head := (fun s => ov_J L 4 136 29 [some (.ref 1), some (.int x1), some (.int x2), some (.int x3), some (.int s.1), some (.int s.2), none, none] [] S G P)) (exit := (fun e => ov_J L 4 136 59 [none, some (.int x1), some (.int x2), some (.int x3), some (.int e), none, none, none] [] S G P)) (fun s r hb hk => bt136_29  hb hk) 2000 ((0 : Int32), (0 : Int32)) e4 he4 ?_
          show ov_J L 4 136 59 [none, some (.int x1), some (.int x2), some (.int x3), some (.int e4), none, none, none] [] S G P
          refine ev_lconst (v := (0 : Int64)) od_136_59 (by decide) ?_
          refine ev_lstore (lv1 := [none, some (.int x1), some (.int x2), some (.int x3), some (.int e4), some (.long (0 : Int64)), none, none]) od_136_60 rfl rfl ?_
          refine ev_iload_n od_136_62 rfl ?_
          refine ev_istore (lv1 := [none, some (.int x1), some (.int x2), some (.int x3), some (.int e4), some (.long (0 : Int64)), none, some (.int x1)]) od_136_63 rfl rfl ?_
          obtain ⟨e9, he9, h⟩ := ov_bd h
          try dsimp only at h
          refine ev_fg (lv0 := [none, none, some (.int x2), some (.int x3), some (.int e4), some (.long (0 : Int64)), none, some (.int x1)]) (ov_le_n (ov_le_n (ov_le_s (ov_le_s (ov_le_s (ov_le_s (ov_le_n (ov_le_s (ov_le_e))))))))) ?_
          refine ov_lp_S (body := (fun s => b136_65 S x2 x3 e4 s.1 s.2)) (head := (fun s => ov_J L 4 136 65 [none, none, some (.int x2), some (.int x3), some (.int e4), some (.long s.1), none, some (.int s.2)] [] S G P)) (exit := (fun e => ov_J L 4 136 110 [none, none, none, some (.int x3), some (.int e4), some (.long e), none, none] [] S G P)) (fun s r hb hk => bt136_65  hb hk) 2000 ((0 : Int64), x1) e9 he9 ?_
          show ov_J L 4 136 110 [none, none, none, some (.int x3), some (.int e4), some (.long e9), none, none] [] S G P
          refine ev_lload od_136_110 rfl ?_
          refine ev_bipush (v := (10 : Int32)) od_136_112 (by decide) ?_
          refine ev_iload od_136_114 rfl ?_
          obtain ⟨y10, hy10, h⟩ := ov_bd h
          try dsimp only at h
          refine ev_csl (y := 115) (n := 2) (as := [.int (10 : Int32), .int e4]) (rest := [.long e9]) (dc := 1) oc_136_116 rfl rfl rfl rfl rfl (by decide) (R115  hy10) ?_
          refine ev_iload_n od_136_119 rfl ?_
          obtain ⟨y11, hy11, h⟩ := ov_bd h
          try dsimp only at h
          refine ev_csi (y := 119) (n := 3) (as := [.long e9, .long y10, .int x3]) (rest := []) (dc := 2) oc_136_120 rfl rfl rfl rfl rfl (by decide) (R119  hy11) ?_
          cases h
          exact ev_iret od_136_123 rfl hP
        · rw [if_neg hc12] at h
          refine ev_bipush (v := (-2 : Int32)) od_136_20 (by decide) ?_
          cases h
          exact ev_iret od_136_22 rfl hP
theorem R136 {L : Nat} {S : ov_S} {G : ov_L2} {x1 : Int32} {x2 : Int32} {x3 : Int32}  {out : Int32} (h : f136 S x1 x2 x3 = some out) : ov_R L 5 136 [.ref 1, .int x1, .int x2, .int x3] S G (some (.int out)) S G :=
  ov_Rof (t136  h ⟨rfl, rfl, rfl⟩)
-- 147 OEModel.readPlay
def b147_50 (S : ov_S) : Option ((ov_S) ⊕ ((ov_S) ⊕ (Int32 × ov_S))) :=
  (if (S 42 2) ≤ (S 42 3) then some (.inr (.inl S)) else (f148 S).bind fun y1 => (if y1.1 = 0 then some (.inr (.inr ((y1.2 42 3), y1.2))) else some (.inl y1.2)))
theorem bt147_50 {L : Nat} {S : ov_S} {G : ov_L2}  {P : Option Value → ov_S → ov_L2 → Prop}  {out : (ov_S) ⊕ ((ov_S) ⊕ (Int32 × ov_S))} (h : b147_50 S = some out) (hk : ov_sm (σ := ov_S) (ε := ((ov_S) ⊕ (Int32 × ov_S))) (fun s => ov_J L 4 147 50 [some (.ref 42)] [] s G P) (ov_sm (fun e => ov_J L 4 147 73 [none] [] e G P) (fun t => P (some (.int t.1)) t.2 G)) out) : ov_J L 4 147 50 [some (.ref 42)] [] S G P := by
  unfold b147_50 at h
  refine ev_aload_n od_147_50 rfl ?_
  refine ev_gf (v := .int (S 42 3)) og_147_51 oO_42 rfl ?_
  refine ev_aload_n od_147_54 rfl ?_
  refine ev_gf (v := .int (S 42 2)) og_147_55 oO_42 rfl ?_
  refine ev_icmp_ge (t := 73) od_147_58 (by decide) (fun hc3 => ?_) (fun hc3 => ?_)
  · rw [if_pos hc3] at h
    cases h
    refine ev_fg (lv0 := [none]) (ov_le_n (ov_le_e)) ?_
    exact hk
  · rw [if_neg hc3] at h
    refine ev_aload_n od_147_61 rfl ?_
    obtain ⟨y1, hy1, h⟩ := ov_bd h
    try dsimp only at h
    refine ev_cvi (y := 148) (n := 0) (a := 42) (c := 8) (as := []) (rest := []) (dc := 4) oc_147_62 rfl rfl rfl oO_42 rfl rfl rfl rfl (by decide) (R148  hy1) ?_
    refine ev_if_ne (t := 50) od_147_65 (by decide) (fun hc2 => ?_) (fun hc2 => ?_)
    · rw [if_neg hc2] at h
      cases h
      exact hk
    · rw [if_pos hc2] at h
      refine ev_aload_n od_147_68 rfl ?_
      refine ev_gf (v := .int (y1.2 42 3)) og_147_69 oO_42 rfl ?_
      cases h
      exact ev_iret od_147_72 rfl hk
def f147 (S : ov_S) : Option (Int32 × ov_S) :=
  (if ((ov_up (ov_up (ov_up (ov_up (ov_up S 42 3 (0 : Int32)) 42 13 (0 : Int32)) 42 15 (0 : Int32)) 42 17 (0 : Int32)) 42 20 (0 : Int32)) 42 2) = 0 then some ((0 : Int32), (ov_up (ov_up (ov_up (ov_up (ov_up S 42 3 (0 : Int32)) 42 13 (0 : Int32)) 42 15 (0 : Int32)) 42 17 (0 : Int32)) 42 20 (0 : Int32))) else (if ((ov_up (ov_up (ov_up (ov_up (ov_up S 42 3 (0 : Int32)) 42 13 (0 : Int32)) 42 15 (0 : Int32)) 42 17 (0 : Int32)) 42 20 (0 : Int32)) 43 ((0 : Int32)).toNatClampNeg) = (69 : Int32) then ((ov_lp (fun s => b147_50  s) 2000 (ov_up (ov_up (ov_up (ov_up (ov_up (ov_up S 42 3 (0 : Int32)) 42 13 (0 : Int32)) 42 15 (0 : Int32)) 42 17 (0 : Int32)) 42 20 (0 : Int32)) 42 3 (1 : Int32))).bind fun e4 => match e4 with | .inl e5 => some ((-9 : Int32), e5) | .inr t => some t) else some ((0 : Int32), (ov_up (ov_up (ov_up (ov_up (ov_up S 42 3 (0 : Int32)) 42 13 (0 : Int32)) 42 15 (0 : Int32)) 42 17 (0 : Int32)) 42 20 (0 : Int32)))))
theorem t147 {L : Nat} {S : ov_S} {G : ov_L2}  {P : Option Value → ov_S → ov_L2 → Prop}  {out : Int32 × ov_S} (h : f147 S = some out) (hP : P (some (.int out.1)) out.2 G) : ov_J L 4 147 0 [some (.ref 42)] [] S G P := by
  unfold f147 at h
  refine ev_aload_n od_147_0 rfl ?_
  refine ev_iconst (v := (0 : Int32)) od_147_1 (by decide) ?_
  refine ev_pf op_147_2 oO_42 rfl rfl ?_
  refine ev_aload_n od_147_5 rfl ?_
  refine ev_iconst (v := (0 : Int32)) od_147_6 (by decide) ?_
  refine ev_pf op_147_7 oO_42 rfl rfl ?_
  refine ev_aload_n od_147_10 rfl ?_
  refine ev_iconst (v := (0 : Int32)) od_147_11 (by decide) ?_
  refine ev_pf op_147_12 oO_42 rfl rfl ?_
  refine ev_aload_n od_147_15 rfl ?_
  refine ev_iconst (v := (0 : Int32)) od_147_16 (by decide) ?_
  refine ev_pf op_147_17 oO_42 rfl rfl ?_
  refine ev_aload_n od_147_20 rfl ?_
  refine ev_iconst (v := (0 : Int32)) od_147_21 (by decide) ?_
  refine ev_pf op_147_22 oO_42 rfl rfl ?_
  refine ev_aload_n od_147_25 rfl ?_
  refine ev_gf (v := .int ((ov_up (ov_up (ov_up (ov_up (ov_up S 42 3 (0 : Int32)) 42 13 (0 : Int32)) 42 15 (0 : Int32)) 42 17 (0 : Int32)) 42 20 (0 : Int32)) 42 2)) og_147_26 oO_42 rfl ?_
  refine ev_if_eq (t := 43) od_147_29 (by decide) (fun hc7 => ?_) (fun hc7 => ?_)
  · rw [if_pos hc7] at h
    refine ev_iconst (v := (0 : Int32)) od_147_43 (by decide) ?_
    cases h
    exact ev_iret od_147_44 rfl hP
  · rw [if_neg hc7] at h
    refine ev_aload_n od_147_32 rfl ?_
    refine ev_gf (v := .ref 43) og_147_33 oO_42 rfl ?_
    refine ev_iconst (v := (0 : Int32)) od_147_36 (by decide) ?_
    refine ev_iald od_147_37 oA_43 (ov_ibk (by decide)) ?_
    refine ev_bipush (v := (69 : Int32)) od_147_38 (by decide) ?_
    refine ev_icmp_eq (t := 45) od_147_40 (by decide) (fun hc6 => ?_) (fun hc6 => ?_)
    · rw [if_pos hc6] at h
      refine ev_aload_n od_147_45 rfl ?_
      refine ev_iconst (v := (1 : Int32)) od_147_46 (by decide) ?_
      refine ev_pf op_147_47 oO_42 rfl rfl ?_
      obtain ⟨e4, he4, h⟩ := ov_bd h
      try dsimp only at h
      refine ov_lp_S (body := (fun s => b147_50  s)) (head := (fun s => ov_J L 4 147 50 [some (.ref 42)] [] s G P)) (exit := (ov_sm (fun e => ov_J L 4 147 73 [none] [] e G P) (fun t => P (some (.int t.1)) t.2 G))) (fun s r hb hk => bt147_50  hb hk) 2000 (ov_up (ov_up (ov_up (ov_up (ov_up (ov_up S 42 3 (0 : Int32)) 42 13 (0 : Int32)) 42 15 (0 : Int32)) 42 17 (0 : Int32)) 42 20 (0 : Int32)) 42 3 (1 : Int32)) e4 he4 ?_
      rcases e4 with e5 | t
      · try dsimp only at h
        show ov_J L 4 147 73 [none] [] e5 G P
        refine ev_bipush (v := (-9 : Int32)) od_147_73 (by decide) ?_
        cases h
        exact ev_iret od_147_75 rfl hP
      · cases h
        exact hP
    · rw [if_neg hc6] at h
      refine ev_iconst (v := (0 : Int32)) od_147_43 (by decide) ?_
      cases h
      exact ev_iret od_147_44 rfl hP
theorem R147 {L : Nat} {S : ov_S} {G : ov_L2}   {out : Int32 × ov_S} (h : f147 S = some out) : ov_R L 5 147 [.ref 42] S G (some (.int out.1)) out.2 G :=
  ov_Rof (t147  h ⟨rfl, rfl, rfl⟩)
-- 163 OEModel.heard
def f163_29_4 (p1 : Nat) (S : ov_S) (x3 : Int32) (s0 : Int32) (s1 : Int32) : Option ((Int32 × Int32) ⊕ (Int32)) :=
  some (.inl ((s1 ||| s0), (x3 + (1 : Int32))))
theorem t163_29_4 {L : Nat} {S : ov_S} {G : ov_L2} {p1 : Nat} {x3 : Int32} {s0 : Int32} {s1 : Int32} {P : Option Value → ov_S → ov_L2 → Prop} (hp1 : ov_A 1 p1) {out : (Int32 × Int32) ⊕ (Int32)} (h : f163_29_4 p1 S x3 s0 s1 = some out) (hk : ov_sm (σ := Int32 × Int32) (ε := (Int32)) (fun s => ov_J L 4 163 4 [some (.ref 42), some (.ref p1), some (.int s.1), some (.int s.2)] [] S G P) (fun e => ov_J L 4 163 37 [none, none, some (.int e), none] [] S G P) out) : ov_J L 4 163 29 [some (.ref 42), some (.ref p1), none, some (.int x3)] [.int s0, .int s1] S G P := by
  unfold f163_29_4 at h
  refine ev_ior od_163_29 ?_
  refine ev_istore_n (lv1 := [some (.ref 42), some (.ref p1), some (.int (s1 ||| s0)), some (.int x3)]) od_163_30 rfl rfl ?_
  refine ev_iinc (v := (x3 + (1 : Int32))) (lv1 := [some (.ref 42), some (.ref p1), some (.int (s1 ||| s0)), some (.int (x3 + (1 : Int32)))]) od_163_31 rfl rfl rfl ?_
  refine ev_goto (t := 4) od_163_34 (by decide) ?_
  cases h
  exact hk
def b163_4 (p1 : Nat) (S : ov_S) (x2 : Int32) (x3 : Int32) : Option ((Int32 × Int32) ⊕ (Int32)) :=
  (if (S 42 10) ≤ x3 then some (.inr x2) else (f164 p1 S x3).bind fun y1 => (if y1 = 0 then f163_29_4 p1 S x3 (0 : Int32) x2 else f163_29_4 p1 S x3 ((1 : Int32) <<< (x3 &&& 31)) x2))
theorem bt163_4 {L : Nat} {S : ov_S} {G : ov_L2} {p1 : Nat} {x2 : Int32} {x3 : Int32} {P : Option Value → ov_S → ov_L2 → Prop} (hp1 : ov_A 1 p1) {out : (Int32 × Int32) ⊕ (Int32)} (h : b163_4 p1 S x2 x3 = some out) (hk : ov_sm (σ := Int32 × Int32) (ε := (Int32)) (fun s => ov_J L 4 163 4 [some (.ref 42), some (.ref p1), some (.int s.1), some (.int s.2)] [] S G P) (fun e => ov_J L 4 163 37 [none, none, some (.int e), none] [] S G P) out) : ov_J L 4 163 4 [some (.ref 42), some (.ref p1), some (.int x2), some (.int x3)] [] S G P := by
  unfold b163_4 at h
  refine ev_iload_n od_163_4 rfl ?_
  refine ev_aload_n od_163_5 rfl ?_
  refine ev_gf (v := .int (S 42 10)) og_163_6 oO_42 rfl ?_
  refine ev_icmp_ge (t := 37) od_163_9 (by decide) (fun hc3 => ?_) (fun hc3 => ?_)
  · rw [if_pos hc3] at h
    cases h
    refine ev_fg (lv0 := [none, none, some (.int x2), none]) (ov_le_n (ov_le_n (ov_le_s (ov_le_n (ov_le_e))))) ?_
    exact hk
  · rw [if_neg hc3] at h
    refine ev_iload_n od_163_12 rfl ?_
    refine ev_aload_n od_163_13 rfl ?_
    refine ev_aload_n od_163_14 rfl ?_
    refine ev_iload_n od_163_15 rfl ?_
    obtain ⟨y1, hy1, h⟩ := ov_bd h
    try dsimp only at h
    refine ev_cvi (y := 164) (n := 2) (a := 42) (c := 8) (as := [.ref p1, .int x3]) (rest := [.int x2]) (dc := 4) oc_163_16 rfl rfl rfl oO_42 rfl rfl rfl rfl (by decide) (R164 hp1 hy1) ?_
    refine ev_if_eq (t := 28) od_163_19 (by decide) (fun hc2 => ?_) (fun hc2 => ?_)
    · rw [if_pos hc2] at h
      refine ev_iconst (v := (0 : Int32)) od_163_28 (by decide) ?_
      refine ev_fg (lv0 := [some (.ref 42), some (.ref p1), none, some (.int x3)]) (ov_le_s (ov_le_s (ov_le_n (ov_le_s (ov_le_e))))) ?_
      exact t163_29_4 hp1 h hk
    · rw [if_neg hc2] at h
      refine ev_iconst (v := (1 : Int32)) od_163_22 (by decide) ?_
      refine ev_iload_n od_163_23 rfl ?_
      refine ev_ishl od_163_24 ?_
      refine ev_goto (t := 29) od_163_25 (by decide) ?_
      refine ev_fg (lv0 := [some (.ref 42), some (.ref p1), none, some (.int x3)]) (ov_le_s (ov_le_s (ov_le_n (ov_le_s (ov_le_e))))) ?_
      exact t163_29_4 hp1 h hk
def f163 (p1 : Nat) (S : ov_S) : Option (Int32) :=
  ((ov_lp (fun s => b163_4 p1 S s.1 s.2) 2000 ((0 : Int32), (0 : Int32))).bind fun e4 => some e4)
theorem t163 {L : Nat} {S : ov_S} {G : ov_L2} {p1 : Nat} {P : Option Value → ov_S → ov_L2 → Prop} (hp1 : ov_A 1 p1) {out : Int32} (h : f163 p1 S = some out) (hP : P (some (.int out)) S G) : ov_J L 4 163 0 [some (.ref 42), some (.ref p1), none, none] [] S G P := by
  unfold f163 at h
  refine ev_iconst (v := (0 : Int32)) od_163_0 (by decide) ?_
  refine ev_istore_n (lv1 := [some (.ref 42), some (.ref p1), some (.int (0 : Int32)), none]) od_163_1 rfl rfl ?_
  refine ev_iconst (v := (0 : Int32)) od_163_2 (by decide) ?_
  refine ev_istore_n (lv1 := [some (.ref 42), some (.ref p1), some (.int (0 : Int32)), some (.int (0 : Int32))]) od_163_3 rfl rfl ?_
  obtain ⟨e4, he4, h⟩ := ov_bd h
  try dsimp only at h
  refine ov_lp_S (body := (fun s => b163_4 p1 S s.1 s.2)) (head := (fun s => ov_J L 4 163 4 [some (.ref 42), some (.ref p1), some (.int s.1), some (.int s.2)] [] S G P)) (exit := (fun e => ov_J L 4 163 37 [none, none, some (.int e), none] [] S G P)) (fun s r hb hk => bt163_4 hp1 hb hk) 2000 ((0 : Int32), (0 : Int32)) e4 he4 ?_
  show ov_J L 4 163 37 [none, none, some (.int e4), none] [] S G P
  refine ev_iload_n od_163_37 rfl ?_
  cases h
  exact ev_iret od_163_38 rfl hP
theorem R163 {L : Nat} {S : ov_S} {G : ov_L2} {p1 : Nat} (hp1 : ov_A 1 p1) {out : Int32} (h : f163 p1 S = some out) : ov_R L 5 163 [.ref 42, .ref p1] S G (some (.int out)) S G :=
  ov_Rof (t163 hp1 h ⟨rfl, rfl, rfl⟩)
-- 174 OEModel.part
def f174 (S : ov_S) (x1 : Int32) (x2 : Int32) : Option (Int32 × ov_S) :=
  (f175 (ov_up S 42 0 (0 : Int32)) x1).bind fun y1 => (if y1 = 0 then (if x2 = (0 : Int32) then ov_ck (ov_ibb x1 6) (some (((ov_up S 42 0 (0 : Int32)) 45 (x1).toNatClampNeg), (ov_up S 42 0 (0 : Int32)))) else if x2 = (1 : Int32) then ov_ck (ov_ibb x1 6) (some (((ov_up S 42 0 (0 : Int32)) 46 (x1).toNatClampNeg), (ov_up S 42 0 (0 : Int32)))) else if x2 = (2 : Int32) then ov_ck (ov_ibb ((0 : Int32) + x1) 12) (some (((ov_up S 42 0 (0 : Int32)) 55 (((0 : Int32) + x1)).toNatClampNeg), (ov_up S 42 0 (0 : Int32)))) else if x2 = (3 : Int32) then (f176 (ov_up S 42 0 (0 : Int32)) x1).bind fun y9 => some (y9, (ov_up S 42 0 (0 : Int32))) else if x2 = (4 : Int32) then (f177 (ov_up S 42 0 (0 : Int32)) x1).bind fun y11 => some (y11.1, y11.2) else some ((-2 : Int32), (ov_up S 42 0 (0 : Int32)))) else some ((-1 : Int32), (ov_up S 42 0 (0 : Int32))))
theorem t174 {L : Nat} {S : ov_S} {G : ov_L2} {x1 : Int32} {x2 : Int32} {P : Option Value → ov_S → ov_L2 → Prop}  {out : Int32 × ov_S} (h : f174 S x1 x2 = some out) (hP : P (some (.int out.1)) out.2 G) : ov_J L 4 174 0 [some (.ref 42), some (.int x1), some (.int x2)] [] S G P := by
  unfold f174 at h
  refine ev_aload_n od_174_0 rfl ?_
  refine ev_iconst (v := (0 : Int32)) od_174_1 (by decide) ?_
  refine ev_pf op_174_2 oO_42 rfl rfl ?_
  refine ev_aload_n od_174_5 rfl ?_
  refine ev_iload_n od_174_6 rfl ?_
  obtain ⟨y1, hy1, h⟩ := ov_bd h
  try dsimp only at h
  refine ev_cvi (y := 175) (n := 1) (a := 42) (c := 8) (as := [.int x1]) (rest := []) (dc := 2) oc_174_7 rfl rfl rfl oO_42 rfl rfl rfl rfl (by decide) (R175  hy1) ?_
  refine ev_if_eq (t := 15) od_174_10 (by decide) (fun hc12 => ?_) (fun hc12 => ?_)
  · rw [if_pos hc12] at h
    refine ev_iload_n od_174_15 rfl ?_
    by_cases hc2 : x2 = (0 : Int32)
    · rw [if_pos hc2] at h
      refine ev_tsc (off := 36) (t := 52) hc2 od_174_16 (by decide) (by decide) ?_
      refine ev_aload_n od_174_52 rfl ?_
      refine ev_gf (v := .ref 45) og_174_53 oO_42 rfl ?_
      refine ev_iload_n od_174_56 rfl ?_
      obtain ⟨bq3, h⟩ := ov_ck_ok h
      refine ev_iald od_174_57 oA_45 (ov_ibk bq3) ?_
      cases h
      exact ev_iret od_174_58 rfl hP
    rw [if_neg hc2] at h
    by_cases hc4 : x2 = (1 : Int32)
    · rw [if_pos hc4] at h
      refine ev_tsc (off := 43) (t := 59) hc4 od_174_16 (by decide) (by decide) ?_
      refine ev_aload_n od_174_59 rfl ?_
      refine ev_gf (v := .ref 46) og_174_60 oO_42 rfl ?_
      refine ev_iload_n od_174_63 rfl ?_
      obtain ⟨bq5, h⟩ := ov_ck_ok h
      refine ev_iald od_174_64 oA_46 (ov_ibk bq5) ?_
      cases h
      exact ev_iret od_174_65 rfl hP
    rw [if_neg hc4] at h
    by_cases hc6 : x2 = (2 : Int32)
    · rw [if_pos hc6] at h
      refine ev_tsc (off := 50) (t := 66) hc6 od_174_16 (by decide) (by decide) ?_
      refine ev_aload_n od_174_66 rfl ?_
      refine ev_gf (v := .ref 55) og_174_67 oO_42 rfl ?_
      refine ev_iconst (v := (0 : Int32)) od_174_70 (by decide) ?_
      refine ev_iload_n od_174_71 rfl ?_
      refine ev_iadd od_174_72 ?_
      obtain ⟨bq7, h⟩ := ov_ck_ok h
      refine ev_iald od_174_73 oA_55 (ov_ibk bq7) ?_
      cases h
      exact ev_iret od_174_74 rfl hP
    rw [if_neg hc6] at h
    by_cases hc8 : x2 = (3 : Int32)
    · rw [if_pos hc8] at h
      refine ev_tsc (off := 59) (t := 75) hc8 od_174_16 (by decide) (by decide) ?_
      refine ev_aload_n od_174_75 rfl ?_
      refine ev_iload_n od_174_76 rfl ?_
      obtain ⟨y9, hy9, h⟩ := ov_bd h
      try dsimp only at h
      refine ev_cvi (y := 176) (n := 1) (a := 42) (c := 8) (as := [.int x1]) (rest := []) (dc := 4) oc_174_77 rfl rfl rfl oO_42 rfl rfl rfl rfl (by decide) (R176  hy9) ?_
      cases h
      exact ev_iret od_174_80 rfl hP
    rw [if_neg hc8] at h
    by_cases hc10 : x2 = (4 : Int32)
    · rw [if_pos hc10] at h
      refine ev_tsc (off := 65) (t := 81) hc10 od_174_16 (by decide) (by decide) ?_
      refine ev_aload_n od_174_81 rfl ?_
      refine ev_iload_n od_174_82 rfl ?_
      obtain ⟨y11, hy11, h⟩ := ov_bd h
      try dsimp only at h
      refine ev_cvi (y := 177) (n := 1) (a := 42) (c := 8) (as := [.int x1]) (rest := []) (dc := 4) oc_174_83 rfl rfl rfl oO_42 rfl rfl rfl rfl (by decide) (R177  hy11) ?_
      cases h
      exact ev_iret od_174_86 rfl hP
    rw [if_neg hc10] at h
    have ehc2 := ov_ni hc2
    have ehc4 := ov_ni hc4
    have ehc6 := ov_ni hc6
    have ehc8 := ov_ni hc8
    have ehc10 := ov_ni hc10
    have hout : (x2).toInt < 0 ∨ 4 < (x2).toInt := by
      rw [show ((0 : Int32)).toInt = 0 from by decide] at ehc2
      rw [show ((1 : Int32)).toInt = 1 from by decide] at ehc4
      rw [show ((2 : Int32)).toInt = 2 from by decide] at ehc6
      rw [show ((3 : Int32)).toInt = 3 from by decide] at ehc8
      rw [show ((4 : Int32)).toInt = 4 from by decide] at ehc10
      omega
    refine ev_tsd (t := 87) hout od_174_16 (by decide) ?_
    refine ev_bipush (v := (-2 : Int32)) od_174_87 (by decide) ?_
    cases h
    exact ev_iret od_174_89 rfl hP
  · rw [if_neg hc12] at h
    refine ev_iconst (v := (-1 : Int32)) od_174_13 (by decide) ?_
    cases h
    exact ev_iret od_174_14 rfl hP
theorem R174 {L : Nat} {S : ov_S} {G : ov_L2} {x1 : Int32} {x2 : Int32}  {out : Int32 × ov_S} (h : f174 S x1 x2 = some out) : ov_R L 5 174 [.ref 42, .int x1, .int x2] S G (some (.int out.1)) out.2 G :=
  ov_Rof (t174  h ⟨rfl, rfl, rfl⟩)
-- 181 OEModel.line
def f181 (S : ov_S) (x1 : Int32) (x2 : Int32) : Option (Int32 × ov_S) :=
  (f144 (x1).toInt64 (0 : Int64) ((((ov_up S 42 0 (0 : Int32)) 42 10) - (1 : Int32))).toInt64).bind fun y1 => (if y1 = 0 then some ((-1 : Int32), (ov_up S 42 0 (0 : Int32))) else (if x2 = (0 : Int32) then ov_ck (ov_ibb x1 6) (some (((ov_up S 42 0 (0 : Int32)) 47 (x1).toNatClampNeg), (ov_up S 42 0 (0 : Int32)))) else if x2 = (1 : Int32) then ov_ck (ov_ibb x1 6) (some (((ov_up S 42 0 (0 : Int32)) 48 (x1).toNatClampNeg), (ov_up S 42 0 (0 : Int32)))) else if x2 = (2 : Int32) then some (((((ov_up S 42 0 (0 : Int32)) 55 ((6 : Int32)).toNatClampNeg) >>> (x1 &&& 31)) &&& (1 : Int32)), (ov_up S 42 0 (0 : Int32))) else if x2 = (3 : Int32) then (f164 55 (ov_up S 42 0 (0 : Int32)) x1).bind fun y8 => (if y8 = 0 then some ((0 : Int32), (ov_up S 42 0 (0 : Int32))) else some ((1 : Int32), (ov_up S 42 0 (0 : Int32)))) else some ((-2 : Int32), (ov_up S 42 0 (0 : Int32)))))
theorem t181 {L : Nat} {S : ov_S} {G : ov_L2} {x1 : Int32} {x2 : Int32} {P : Option Value → ov_S → ov_L2 → Prop}  {out : Int32 × ov_S} (h : f181 S x1 x2 = some out) (hP : P (some (.int out.1)) out.2 G) : ov_J L 4 181 0 [some (.ref 42), some (.int x1), some (.int x2)] [] S G P := by
  unfold f181 at h
  refine ev_aload_n od_181_0 rfl ?_
  refine ev_iconst (v := (0 : Int32)) od_181_1 (by decide) ?_
  refine ev_pf op_181_2 oO_42 rfl rfl ?_
  refine ev_iload_n od_181_5 rfl ?_
  refine ev_i2l od_181_6 ?_
  refine ev_lconst (v := (0 : Int64)) od_181_7 (by decide) ?_
  refine ev_aload_n od_181_8 rfl ?_
  refine ev_gf (v := .int ((ov_up S 42 0 (0 : Int32)) 42 10)) og_181_9 oO_42 rfl ?_
  refine ev_iconst (v := (1 : Int32)) od_181_12 (by decide) ?_
  refine ev_isub od_181_13 ?_
  refine ev_i2l od_181_14 ?_
  obtain ⟨y1, hy1, h⟩ := ov_bd h
  try dsimp only at h
  refine ev_csi (y := 144) (n := 3) (as := [.long (x1).toInt64, .long (0 : Int64), .long ((((ov_up S 42 0 (0 : Int32)) 42 10) - (1 : Int32))).toInt64]) (rest := []) (dc := 1) oc_181_15 rfl rfl rfl rfl rfl (by decide) (R144  hy1) ?_
  refine ev_if_ne (t := 23) od_181_18 (by decide) (fun hc10 => ?_) (fun hc10 => ?_)
  · rw [if_neg hc10] at h
    refine ev_iload_n od_181_23 rfl ?_
    by_cases hc2 : x2 = (0 : Int32)
    · rw [if_pos hc2] at h
      refine ev_tsc (off := 32) (t := 56) hc2 od_181_24 (by decide) (by decide) ?_
      refine ev_aload_n od_181_56 rfl ?_
      refine ev_gf (v := .ref 47) og_181_57 oO_42 rfl ?_
      refine ev_iload_n od_181_60 rfl ?_
      obtain ⟨bq3, h⟩ := ov_ck_ok h
      refine ev_iald od_181_61 oA_47 (ov_ibk bq3) ?_
      cases h
      exact ev_iret od_181_62 rfl hP
    rw [if_neg hc2] at h
    by_cases hc4 : x2 = (1 : Int32)
    · rw [if_pos hc4] at h
      refine ev_tsc (off := 39) (t := 63) hc4 od_181_24 (by decide) (by decide) ?_
      refine ev_aload_n od_181_63 rfl ?_
      refine ev_gf (v := .ref 48) og_181_64 oO_42 rfl ?_
      refine ev_iload_n od_181_67 rfl ?_
      obtain ⟨bq5, h⟩ := ov_ck_ok h
      refine ev_iald od_181_68 oA_48 (ov_ibk bq5) ?_
      cases h
      exact ev_iret od_181_69 rfl hP
    rw [if_neg hc4] at h
    by_cases hc6 : x2 = (2 : Int32)
    · rw [if_pos hc6] at h
      refine ev_tsc (off := 46) (t := 70) hc6 od_181_24 (by decide) (by decide) ?_
      refine ev_aload_n od_181_70 rfl ?_
      refine ev_gf (v := .ref 55) og_181_71 oO_42 rfl ?_
      refine ev_bipush (v := (6 : Int32)) od_181_74 (by decide) ?_
      refine ev_iald od_181_76 oA_55 (ov_ibk (by decide)) ?_
      refine ev_iload_n od_181_77 rfl ?_
      refine ev_ishr od_181_78 ?_
      refine ev_iconst (v := (1 : Int32)) od_181_79 (by decide) ?_
      refine ev_iand od_181_80 ?_
      cases h
      exact ev_iret od_181_81 rfl hP
    rw [if_neg hc6] at h
    by_cases hc7 : x2 = (3 : Int32)
    · rw [if_pos hc7] at h
      refine ev_tsc (off := 58) (t := 82) hc7 od_181_24 (by decide) (by decide) ?_
      refine ev_aload_n od_181_82 rfl ?_
      refine ev_aload_n od_181_83 rfl ?_
      refine ev_gf (v := .ref 55) og_181_84 oO_42 rfl ?_
      refine ev_iload_n od_181_87 rfl ?_
      obtain ⟨y8, hy8, h⟩ := ov_bd h
      try dsimp only at h
      refine ev_cvi (y := 164) (n := 2) (a := 42) (c := 8) (as := [.ref 55, .int x1]) (rest := []) (dc := 4) oc_181_88 rfl rfl rfl oO_42 rfl rfl rfl rfl (by decide) (R164 oA_55 hy8) ?_
      refine ev_if_eq (t := 98) od_181_91 (by decide) (fun hc9 => ?_) (fun hc9 => ?_)
      · rw [if_pos hc9] at h
        refine ev_iconst (v := (0 : Int32)) od_181_98 (by decide) ?_
        cases h
        exact ev_iret od_181_99 rfl hP
      · rw [if_neg hc9] at h
        refine ev_iconst (v := (1 : Int32)) od_181_94 (by decide) ?_
        refine ev_goto (t := 99) od_181_95 (by decide) ?_
        cases h
        exact ev_iret od_181_99 rfl hP
    rw [if_neg hc7] at h
    have ehc2 := ov_ni hc2
    have ehc4 := ov_ni hc4
    have ehc6 := ov_ni hc6
    have ehc7 := ov_ni hc7
    have hout : (x2).toInt < 0 ∨ 3 < (x2).toInt := by
      rw [show ((0 : Int32)).toInt = 0 from by decide] at ehc2
      rw [show ((1 : Int32)).toInt = 1 from by decide] at ehc4
      rw [show ((2 : Int32)).toInt = 2 from by decide] at ehc6
      rw [show ((3 : Int32)).toInt = 3 from by decide] at ehc7
      omega
    refine ev_tsd (t := 100) hout od_181_24 (by decide) ?_
    refine ev_bipush (v := (-2 : Int32)) od_181_100 (by decide) ?_
    cases h
    exact ev_iret od_181_102 rfl hP
  · rw [if_pos hc10] at h
    refine ev_iconst (v := (-1 : Int32)) od_181_21 (by decide) ?_
    cases h
    exact ev_iret od_181_22 rfl hP
theorem R181 {L : Nat} {S : ov_S} {G : ov_L2} {x1 : Int32} {x2 : Int32}  {out : Int32 × ov_S} (h : f181 S x1 x2 = some out) : ov_R L 5 181 [.ref 42, .int x1, .int x2] S G (some (.int out.1)) out.2 G :=
  ov_Rof (t181  h ⟨rfl, rfl, rfl⟩)
