-- 123 OE.tread
def f123 (S : ov_S) (x1 : Int32) (x2 : Int32) : Option (Int32 × ov_S) :=
  (f49 x1).bind fun y1 => (if y1 = 0 then some ((-1 : Int32), S) else (if x2 < 0 then some ((-2 : Int32), S) else (if x2 ≤ (9 : Int32) then (f124 S x1 x2).bind fun y2 => (if y2.1 = 0 then some ((-4 : Int32), y2.2) else (f56 y2.2).bind fun y3 => some (y3, y2.2)) else some ((-2 : Int32), S))))
theorem t123 {L : Nat} {S : ov_S} {G : ov_L2} {x1 : Int32} {x2 : Int32} {P : Option Value → ov_S → ov_L2 → Prop}  {out : Int32 × ov_S} (h : f123 S x1 x2 = some out) (hP : P (some (.int out.1)) out.2 G) : ov_J L 1 123 0 [some (.ref 1), some (.int x1), some (.int x2)] [] S G P := by
  unfold f123 at h
  refine ev_iload_n od_123_0 rfl ?_
  obtain ⟨y1, hy1, h⟩ := ov_bd h
  try dsimp only at h
  refine ev_csi (y := 49) (n := 1) (as := [.int x1]) (rest := []) (dc := 1) oc_123_1 rfl rfl rfl rfl rfl (by decide) (R49  hy1) ?_
  refine ev_if_ne (t := 9) od_123_4 (by decide) (fun hc7 => ?_) (fun hc7 => ?_)
  · rw [if_neg hc7] at h
    refine ev_iload_n od_123_9 rfl ?_
    refine ev_if_lt (t := 19) od_123_10 (by decide) (fun hc6 => ?_) (fun hc6 => ?_)
    · rw [if_pos hc6] at h
      refine ev_bipush (v := (-2 : Int32)) od_123_19 (by decide) ?_
      cases h
      exact ev_iret od_123_21 rfl hP
    · rw [if_neg hc6] at h
      refine ev_iload_n od_123_13 rfl ?_
      refine ev_bipush (v := (9 : Int32)) od_123_14 (by decide) ?_
      refine ev_icmp_le (t := 22) od_123_16 (by decide) (fun hc5 => ?_) (fun hc5 => ?_)
      · rw [if_pos hc5] at h
        refine ev_aload_n od_123_22 rfl ?_
        refine ev_gf (v := .ref 28) og_123_23 oO_1 rfl ?_
        refine ev_iload_n od_123_26 rfl ?_
        refine ev_iload_n od_123_27 rfl ?_
        obtain ⟨y2, hy2, h⟩ := ov_bd h
        try dsimp only at h
        refine ev_cvi (y := 124) (n := 2) (a := 28) (c := 5) (as := [.int x1, .int x2]) (rest := []) (dc := 1) oc_123_28 rfl rfl rfl oO_28 rfl rfl rfl rfl (by decide) (R124  hy2) ?_
        refine ev_if_eq (t := 44) od_123_31 (by decide) (fun hc4 => ?_) (fun hc4 => ?_)
        · rw [if_pos hc4] at h
          refine ev_bipush (v := (-4 : Int32)) od_123_44 (by decide) ?_
          cases h
          exact ev_iret od_123_46 rfl hP
        · rw [if_neg hc4] at h
          refine ev_aload_n od_123_34 rfl ?_
          refine ev_gf (v := .ref 28) og_123_35 oO_1 rfl ?_
          obtain ⟨y3, hy3, h⟩ := ov_bd h
          try dsimp only at h
          refine ev_cvi (y := 56) (n := 0) (a := 28) (c := 5) (as := []) (rest := []) (dc := 1) oc_123_38 rfl rfl rfl oO_28 rfl rfl rfl rfl (by decide) (R56  hy3) ?_
          refine ev_goto (t := 46) od_123_41 (by decide) ?_
          cases h
          exact ev_iret od_123_46 rfl hP
      · rw [if_neg hc5] at h
        refine ev_bipush (v := (-2 : Int32)) od_123_19 (by decide) ?_
        cases h
        exact ev_iret od_123_21 rfl hP
  · rw [if_pos hc7] at h
    refine ev_iconst (v := (-1 : Int32)) od_123_7 (by decide) ?_
    cases h
    exact ev_iret od_123_8 rfl hP
theorem R123 {L : Nat} {S : ov_S} {G : ov_L2} {x1 : Int32} {x2 : Int32}  {out : Int32 × ov_S} (h : f123 S x1 x2 = some out) : ov_R L 2 123 [.ref 1, .int x1, .int x2] S G (some (.int out.1)) out.2 G :=
  ov_Rof (t123  h ⟨rfl, rfl, rfl⟩)
-- 125 OE.untread
def f125 (S : ov_S) : Option (Int32 × ov_S) :=
  (f56 S).bind fun y1 => (f126 S).bind fun y2 => some (y1, y2)
theorem t125 {L : Nat} {S : ov_S} {G : ov_L2}  {P : Option Value → ov_S → ov_L2 → Prop}  {out : Int32 × ov_S} (h : f125 S = some out) (hP : P (some (.int out.1)) out.2 G) : ov_J L 1 125 0 [some (.ref 1), none] [] S G P := by
  unfold f125 at h
  refine ev_aload_n od_125_0 rfl ?_
  refine ev_gf (v := .ref 28) og_125_1 oO_1 rfl ?_
  obtain ⟨y1, hy1, h⟩ := ov_bd h
  try dsimp only at h
  refine ev_cvi (y := 56) (n := 0) (a := 28) (c := 5) (as := []) (rest := []) (dc := 1) oc_125_4 rfl rfl rfl oO_28 rfl rfl rfl rfl (by decide) (R56  hy1) ?_
  refine ev_istore_n (lv1 := [some (.ref 1), some (.int y1)]) od_125_7 rfl rfl ?_
  refine ev_aload_n od_125_8 rfl ?_
  refine ev_gf (v := .ref 28) og_125_9 oO_1 rfl ?_
  obtain ⟨y2, hy2, h⟩ := ov_bd h
  try dsimp only at h
  refine ev_cvv (y := 126) (n := 0) (a := 28) (c := 5) (as := []) (rest := []) (dc := 1) oc_125_12 rfl rfl rfl oO_28 rfl rfl rfl rfl (by decide) (R126  hy2) ?_
  refine ev_iload_n od_125_15 rfl ?_
  cases h
  exact ev_iret od_125_16 rfl hP
theorem R125 {L : Nat} {S : ov_S} {G : ov_L2}   {out : Int32 × ov_S} (h : f125 S = some out) : ov_R L 2 125 [.ref 1] S G (some (.int out.1)) out.2 G :=
  ov_Rof (t125  h ⟨rfl, rfl, rfl⟩)
-- 140 OE.keep
def f140 (S : ov_S) (x1 : Int32) : Option (Int32 × ov_S) :=
  (if x1 < 0 then some ((-1 : Int32), S) else (if x1 < (2 : Int32) then (if x1 = (0 : Int32) then (f97 36 18 S).bind fun y2 => (f27 (y2 1 10) x1).bind fun y3 => (f54 18 (ov_up y2 1 10 y3)).bind fun y4 => some (y4, (ov_up y2 1 10 y3)) else if x1 = (1 : Int32) then (f97 39 18 S).bind fun y6 => (f27 (y6 1 10) x1).bind fun y7 => (f54 18 (ov_up y6 1 10 y7)).bind fun y8 => some (y8, (ov_up y6 1 10 y7)) else none) else some ((-1 : Int32), S)))
theorem t140 {L : Nat} {S : ov_S} {G : ov_L2} {x1 : Int32} {P : Option Value → ov_S → ov_L2 → Prop}  {out : Int32 × ov_S} (h : f140 S x1 = some out) (hP : P (some (.int out.1)) out.2 G) : ov_J L 1 140 0 [some (.ref 1), some (.int x1)] [] S G P := by
  unfold f140 at h
  refine ev_iload_n od_140_0 rfl ?_
  refine ev_if_lt (t := 9) od_140_1 (by decide) (fun hc10 => ?_) (fun hc10 => ?_)
  · rw [if_pos hc10] at h
    refine ev_iconst (v := (-1 : Int32)) od_140_9 (by decide) ?_
    cases h
    exact ev_iret od_140_10 rfl hP
  · rw [if_neg hc10] at h
    refine ev_iload_n od_140_4 rfl ?_
    refine ev_iconst (v := (2 : Int32)) od_140_5 (by decide) ?_
    refine ev_icmp_lt (t := 11) od_140_6 (by decide) (fun hc9 => ?_) (fun hc9 => ?_)
    · rw [if_pos hc9] at h
      refine ev_aload_n od_140_11 rfl ?_
      refine ev_gf (v := .ref 35) og_140_12 oO_1 rfl ?_
      refine ev_iload_n od_140_15 rfl ?_
      by_cases hc1 : x1 = (0 : Int32)
      · rw [if_pos hc1] at h
        refine ev_aald (r := 36) od_140_16 ⟨rfl, by decide⟩ (by rw [hc1]; exact ov_ibk (by decide)) (by rw [hc1]; rfl) ?_
        refine ev_aload_n od_140_17 rfl ?_
        refine ev_gf (v := .ref 18) og_140_18 oO_1 rfl ?_
        obtain ⟨y2, hy2, h⟩ := ov_bd h
        try dsimp only at h
        refine ev_cvv (y := 97) (n := 1) (a := 36) (c := 3) (as := [.ref 18]) (rest := []) (dc := 1) oc_140_21 rfl rfl rfl oO_36 rfl rfl rfl rfl (by decide) (R97 oS_36 oS_18 hy2) ?_
        refine ev_aload_n od_140_24 rfl ?_
        refine ev_aload_n od_140_25 rfl ?_
        refine ev_gf (v := .int (y2 1 10)) og_140_26 oO_1 rfl ?_
        refine ev_iload_n od_140_29 rfl ?_
        obtain ⟨y3, hy3, h⟩ := ov_bd h
        try dsimp only at h
        refine ev_csi (y := 27) (n := 2) (as := [.int (y2 1 10), .int x1]) (rest := [.ref 1]) (dc := 1) oc_140_30 rfl rfl rfl rfl rfl (by decide) (R27  hy3) ?_
        refine ev_pf op_140_33 oO_1 rfl rfl ?_
        refine ev_aload_n od_140_36 rfl ?_
        refine ev_gf (v := .ref 18) og_140_37 oO_1 rfl ?_
        obtain ⟨y4, hy4, h⟩ := ov_bd h
        try dsimp only at h
        refine ev_cvi (y := 54) (n := 0) (a := 18) (c := 3) (as := []) (rest := []) (dc := 1) oc_140_40 rfl rfl rfl oO_18 rfl rfl rfl rfl (by decide) (R54 oS_18 hy4) ?_
        cases h
        exact ev_iret od_140_43 rfl hP
      rw [if_neg hc1] at h
      by_cases hc5 : x1 = (1 : Int32)
      · rw [if_pos hc5] at h
        refine ev_aald (r := 39) od_140_16 ⟨rfl, by decide⟩ (by rw [hc5]; exact ov_ibk (by decide)) (by rw [hc5]; rfl) ?_
        refine ev_aload_n od_140_17 rfl ?_
        refine ev_gf (v := .ref 18) og_140_18 oO_1 rfl ?_
        obtain ⟨y6, hy6, h⟩ := ov_bd h
        try dsimp only at h
        refine ev_cvv (y := 97) (n := 1) (a := 39) (c := 3) (as := [.ref 18]) (rest := []) (dc := 1) oc_140_21 rfl rfl rfl oO_39 rfl rfl rfl rfl (by decide) (R97 oS_39 oS_18 hy6) ?_
        refine ev_aload_n od_140_24 rfl ?_
        refine ev_aload_n od_140_25 rfl ?_
        refine ev_gf (v := .int (y6 1 10)) og_140_26 oO_1 rfl ?_
        refine ev_iload_n od_140_29 rfl ?_
        obtain ⟨y7, hy7, h⟩ := ov_bd h
        try dsimp only at h
        refine ev_csi (y := 27) (n := 2) (as := [.int (y6 1 10), .int x1]) (rest := [.ref 1]) (dc := 1) oc_140_30 rfl rfl rfl rfl rfl (by decide) (R27  hy7) ?_
        refine ev_pf op_140_33 oO_1 rfl rfl ?_
        refine ev_aload_n od_140_36 rfl ?_
        refine ev_gf (v := .ref 18) og_140_37 oO_1 rfl ?_
        obtain ⟨y8, hy8, h⟩ := ov_bd h
        try dsimp only at h
        refine ev_cvi (y := 54) (n := 0) (a := 18) (c := 3) (as := []) (rest := []) (dc := 1) oc_140_40 rfl rfl rfl oO_18 rfl rfl rfl rfl (by decide) (R54 oS_18 hy8) ?_
        cases h
        exact ev_iret od_140_43 rfl hP
      rw [if_neg hc5] at h
      cases h
    · rw [if_neg hc9] at h
      refine ev_iconst (v := (-1 : Int32)) od_140_9 (by decide) ?_
      cases h
      exact ev_iret od_140_10 rfl hP
theorem R140 {L : Nat} {S : ov_S} {G : ov_L2} {x1 : Int32}  {out : Int32 × ov_S} (h : f140 S x1 = some out) : ov_R L 2 140 [.ref 1, .int x1] S G (some (.int out.1)) out.2 G :=
  ov_Rof (t140  h ⟨rfl, rfl, rfl⟩)
-- 141 OE.again
def f141 (S : ov_S) (x1 : Int32) : Option (Int32 × ov_S) :=
  (if x1 < 0 then some ((-1 : Int32), S) else (if x1 < (2 : Int32) then (f23 (S 1 10) x1).bind fun y1 => (if y1 = 0 then some ((-3 : Int32), S) else (if x1 = (0 : Int32) then (f97 18 36 S).bind fun y3 => (f31 y3).bind fun y4 => (f54 18 y4).bind fun y5 => some (y5, y4) else if x1 = (1 : Int32) then (f97 18 39 S).bind fun y7 => (f31 y7).bind fun y8 => (f54 18 y8).bind fun y9 => some (y9, y8) else none)) else some ((-1 : Int32), S)))
theorem t141 {L : Nat} {S : ov_S} {G : ov_L2} {x1 : Int32} {P : Option Value → ov_S → ov_L2 → Prop}  {out : Int32 × ov_S} (h : f141 S x1 = some out) (hP : P (some (.int out.1)) out.2 G) : ov_J L 1 141 0 [some (.ref 1), some (.int x1)] [] S G P := by
  unfold f141 at h
  refine ev_iload_n od_141_0 rfl ?_
  refine ev_if_lt (t := 9) od_141_1 (by decide) (fun hc12 => ?_) (fun hc12 => ?_)
  · rw [if_pos hc12] at h
    refine ev_iconst (v := (-1 : Int32)) od_141_9 (by decide) ?_
    cases h
    exact ev_iret od_141_10 rfl hP
  · rw [if_neg hc12] at h
    refine ev_iload_n od_141_4 rfl ?_
    refine ev_iconst (v := (2 : Int32)) od_141_5 (by decide) ?_
    refine ev_icmp_lt (t := 11) od_141_6 (by decide) (fun hc11 => ?_) (fun hc11 => ?_)
    · rw [if_pos hc11] at h
      refine ev_aload_n od_141_11 rfl ?_
      refine ev_gf (v := .int (S 1 10)) og_141_12 oO_1 rfl ?_
      refine ev_iload_n od_141_15 rfl ?_
      obtain ⟨y1, hy1, h⟩ := ov_bd h
      try dsimp only at h
      refine ev_csi (y := 23) (n := 2) (as := [.int (S 1 10), .int x1]) (rest := []) (dc := 1) oc_141_16 rfl rfl rfl rfl rfl (by decide) (R23  hy1) ?_
      refine ev_if_ne (t := 25) od_141_19 (by decide) (fun hc10 => ?_) (fun hc10 => ?_)
      · rw [if_neg hc10] at h
        refine ev_aload_n od_141_25 rfl ?_
        refine ev_gf (v := .ref 18) og_141_26 oO_1 rfl ?_
        refine ev_aload_n od_141_29 rfl ?_
        refine ev_gf (v := .ref 35) og_141_30 oO_1 rfl ?_
        refine ev_iload_n od_141_33 rfl ?_
        by_cases hc2 : x1 = (0 : Int32)
        · rw [if_pos hc2] at h
          refine ev_aald (r := 36) od_141_34 ⟨rfl, by decide⟩ (by rw [hc2]; exact ov_ibk (by decide)) (by rw [hc2]; rfl) ?_
          obtain ⟨y3, hy3, h⟩ := ov_bd h
          try dsimp only at h
          refine ev_cvv (y := 97) (n := 1) (a := 18) (c := 3) (as := [.ref 36]) (rest := []) (dc := 1) oc_141_35 rfl rfl rfl oO_18 rfl rfl rfl rfl (by decide) (R97 oS_18 oS_36 hy3) ?_
          refine ev_aload_n od_141_38 rfl ?_
          refine ev_gf (v := .ref 24) og_141_39 oO_1 rfl ?_
          obtain ⟨y4, hy4, h⟩ := ov_bd h
          try dsimp only at h
          refine ev_cvv (y := 31) (n := 0) (a := 24) (c := 4) (as := []) (rest := []) (dc := 1) oc_141_42 rfl rfl rfl oO_24 rfl rfl rfl rfl (by decide) (R31  hy4) ?_
          refine ev_aload_n od_141_45 rfl ?_
          refine ev_gf (v := .ref 18) og_141_46 oO_1 rfl ?_
          obtain ⟨y5, hy5, h⟩ := ov_bd h
          try dsimp only at h
          refine ev_cvi (y := 54) (n := 0) (a := 18) (c := 3) (as := []) (rest := []) (dc := 1) oc_141_49 rfl rfl rfl oO_18 rfl rfl rfl rfl (by decide) (R54 oS_18 hy5) ?_
          cases h
          exact ev_iret od_141_52 rfl hP
        rw [if_neg hc2] at h
        by_cases hc6 : x1 = (1 : Int32)
        · rw [if_pos hc6] at h
          refine ev_aald (r := 39) od_141_34 ⟨rfl, by decide⟩ (by rw [hc6]; exact ov_ibk (by decide)) (by rw [hc6]; rfl) ?_
          obtain ⟨y7, hy7, h⟩ := ov_bd h
          try dsimp only at h
          refine ev_cvv (y := 97) (n := 1) (a := 18) (c := 3) (as := [.ref 39]) (rest := []) (dc := 1) oc_141_35 rfl rfl rfl oO_18 rfl rfl rfl rfl (by decide) (R97 oS_18 oS_39 hy7) ?_
          refine ev_aload_n od_141_38 rfl ?_
          refine ev_gf (v := .ref 24) og_141_39 oO_1 rfl ?_
          obtain ⟨y8, hy8, h⟩ := ov_bd h
          try dsimp only at h
          refine ev_cvv (y := 31) (n := 0) (a := 24) (c := 4) (as := []) (rest := []) (dc := 1) oc_141_42 rfl rfl rfl oO_24 rfl rfl rfl rfl (by decide) (R31  hy8) ?_
          refine ev_aload_n od_141_45 rfl ?_
          refine ev_gf (v := .ref 18) og_141_46 oO_1 rfl ?_
          obtain ⟨y9, hy9, h⟩ := ov_bd h
          try dsimp only at h
          refine ev_cvi (y := 54) (n := 0) (a := 18) (c := 3) (as := []) (rest := []) (dc := 1) oc_141_49 rfl rfl rfl oO_18 rfl rfl rfl rfl (by decide) (R54 oS_18 hy9) ?_
          cases h
          exact ev_iret od_141_52 rfl hP
        rw [if_neg hc6] at h
        cases h
      · rw [if_pos hc10] at h
        refine ev_bipush (v := (-3 : Int32)) od_141_22 (by decide) ?_
        cases h
        exact ev_iret od_141_24 rfl hP
    · rw [if_neg hc11] at h
      refine ev_iconst (v := (-1 : Int32)) od_141_9 (by decide) ?_
      cases h
      exact ev_iret od_141_10 rfl hP
theorem R141 {L : Nat} {S : ov_S} {G : ov_L2} {x1 : Int32}  {out : Int32 × ov_S} (h : f141 S x1 = some out) : ov_R L 2 141 [.ref 1, .int x1] S G (some (.int out.1)) out.2 G :=
  ov_Rof (t141  h ⟨rfl, rfl, rfl⟩)
-- 143 OEModel.write
def f143 (S : ov_S) (x1 : Int32) : Option (Int32 × ov_S) :=
  (f144 (x1).toInt64 (0 : Int64) (255 : Int64)).bind fun y2 => (if y2 = 0 then some ((-2 : Int32), (ov_up S 42 0 (0 : Int32))) else (if ((ov_up S 42 0 (0 : Int32)) 42 2) = (60 : Int32) then some ((-4 : Int32), (ov_up S 42 0 (0 : Int32))) else ov_ck (ov_ibb ((ov_up S 42 0 (0 : Int32)) 42 2) 60) (some (((ov_up (ov_up (ov_up S 42 0 (0 : Int32)) 43 (((ov_up S 42 0 (0 : Int32)) 42 2)).toNatClampNeg x1) 42 2 (((ov_up (ov_up S 42 0 (0 : Int32)) 43 (((ov_up S 42 0 (0 : Int32)) 42 2)).toNatClampNeg x1) 42 2) + (1 : Int32))) 42 2), (ov_up (ov_up (ov_up S 42 0 (0 : Int32)) 43 (((ov_up S 42 0 (0 : Int32)) 42 2)).toNatClampNeg x1) 42 2 (((ov_up (ov_up S 42 0 (0 : Int32)) 43 (((ov_up S 42 0 (0 : Int32)) 42 2)).toNatClampNeg x1) 42 2) + (1 : Int32)))))))
theorem t143 {L : Nat} {S : ov_S} {G : ov_L2} {x1 : Int32} {P : Option Value → ov_S → ov_L2 → Prop}  {out : Int32 × ov_S} (h : f143 S x1 = some out) (hP : P (some (.int out.1)) out.2 G) : ov_J L 1 143 0 [some (.ref 42), some (.int x1)] [] S G P := by
  unfold f143 at h
  refine ev_aload_n od_143_0 rfl ?_
  refine ev_iconst (v := (0 : Int32)) od_143_1 (by decide) ?_
  refine ev_pf op_143_2 oO_42 rfl rfl ?_
  refine ev_iload_n od_143_5 rfl ?_
  refine ev_i2l od_143_6 ?_
  refine ev_lconst (v := (0 : Int64)) od_143_7 (by decide) ?_
  obtain ⟨w1, hw1⟩ := ok_143_8
  refine ev_ldc2_w od_143_8 hw1 ?_
  obtain ⟨y2, hy2, h⟩ := ov_bd h
  try dsimp only at h
  refine ev_csi (y := 144) (n := 3) (as := [.long (x1).toInt64, .long (0 : Int64), .long (255 : Int64)]) (rest := []) (dc := 1) oc_143_11 rfl rfl rfl rfl rfl (by decide) (R144  hy2) ?_
  refine ev_if_ne (t := 20) od_143_14 (by decide) (fun hc5 => ?_) (fun hc5 => ?_)
  · rw [if_neg hc5] at h
    refine ev_aload_n od_143_20 rfl ?_
    refine ev_gf (v := .int ((ov_up S 42 0 (0 : Int32)) 42 2)) og_143_21 oO_42 rfl ?_
    refine ev_bipush (v := (60 : Int32)) od_143_24 (by decide) ?_
    refine ev_icmp_ne (t := 32) od_143_26 (by decide) (fun hc4 => ?_) (fun hc4 => ?_)
    · rw [if_neg hc4] at h
      refine ev_aload_n od_143_32 rfl ?_
      refine ev_gf (v := .ref 43) og_143_33 oO_42 rfl ?_
      refine ev_aload_n od_143_36 rfl ?_
      refine ev_gf (v := .int ((ov_up S 42 0 (0 : Int32)) 42 2)) og_143_37 oO_42 rfl ?_
      refine ev_iload_n od_143_40 rfl ?_
      obtain ⟨bq3, h⟩ := ov_ck_ok h
      refine ev_iast od_143_41 oA_43 (ov_ibk bq3) ?_
      refine ev_aload_n od_143_42 rfl ?_
      refine ev_dup od_143_43 rfl ?_
      refine ev_gf (v := .int ((ov_up (ov_up S 42 0 (0 : Int32)) 43 (((ov_up S 42 0 (0 : Int32)) 42 2)).toNatClampNeg x1) 42 2)) og_143_44 oO_42 rfl ?_
      refine ev_iconst (v := (1 : Int32)) od_143_47 (by decide) ?_
      refine ev_iadd od_143_48 ?_
      refine ev_pf op_143_49 oO_42 rfl rfl ?_
      refine ev_aload_n od_143_52 rfl ?_
      refine ev_gf (v := .int ((ov_up (ov_up (ov_up S 42 0 (0 : Int32)) 43 (((ov_up S 42 0 (0 : Int32)) 42 2)).toNatClampNeg x1) 42 2 (((ov_up (ov_up S 42 0 (0 : Int32)) 43 (((ov_up S 42 0 (0 : Int32)) 42 2)).toNatClampNeg x1) 42 2) + (1 : Int32))) 42 2)) og_143_53 oO_42 rfl ?_
      cases h
      exact ev_iret od_143_56 rfl hP
    · rw [if_pos hc4] at h
      refine ev_bipush (v := (-4 : Int32)) od_143_29 (by decide) ?_
      cases h
      exact ev_iret od_143_31 rfl hP
  · rw [if_pos hc5] at h
    refine ev_bipush (v := (-2 : Int32)) od_143_17 (by decide) ?_
    cases h
    exact ev_iret od_143_19 rfl hP
theorem R143 {L : Nat} {S : ov_S} {G : ov_L2} {x1 : Int32}  {out : Int32 × ov_S} (h : f143 S x1 = some out) : ov_R L 2 143 [.ref 42, .int x1] S G (some (.int out.1)) out.2 G :=
  ov_Rof (t143  h ⟨rfl, rfl, rfl⟩)
-- 151 OEModel.readCell
def f151_28 (S : ov_S) (x1 : Int32) (s0 : Int32) : Option (Int32 × ov_S) :=
  (f144 (s0).toInt64 (x1).toInt64 (17 : Int64)).bind fun y3 => (if y3 = 0 then some ((-9 : Int32), S) else (f149 S).bind fun y4 => (f152 y4 s0).bind fun y5 => (if y5 = 0 then some (s0, (ov_up S 42 3 ((S 42 3) + (1 : Int32)))) else some ((-9 : Int32), S)))
theorem t151_28 {L : Nat} {S : ov_S} {G : ov_L2} {x1 : Int32} {s0 : Int32} {P : Option Value → ov_S → ov_L2 → Prop}  {out : Int32 × ov_S} (h : f151_28 S x1 s0 = some out) (hP : P (some (.int out.1)) out.2 G) : ov_J L 1 151 28 [some (.ref 42), some (.int x1), none] [.int s0] S G P := by
  unfold f151_28 at h
  refine ev_istore_n (lv1 := [some (.ref 42), some (.int x1), some (.int s0)]) od_151_28 rfl rfl ?_
  refine ev_iload_n od_151_29 rfl ?_
  refine ev_i2l od_151_30 ?_
  refine ev_iload_n od_151_31 rfl ?_
  refine ev_i2l od_151_32 ?_
  obtain ⟨w2, hw2⟩ := ok_151_33
  refine ev_ldc2_w od_151_33 hw2 ?_
  obtain ⟨y3, hy3, h⟩ := ov_bd h
  try dsimp only at h
  refine ev_csi (y := 144) (n := 3) (as := [.long (s0).toInt64, .long (x1).toInt64, .long (17 : Int64)]) (rest := []) (dc := 1) oc_151_36 rfl rfl rfl rfl rfl (by decide) (R144  hy3) ?_
  refine ev_if_eq (t := 53) od_151_39 (by decide) (fun hc7 => ?_) (fun hc7 => ?_)
  · rw [if_pos hc7] at h
    refine ev_bipush (v := (-9 : Int32)) od_151_53 (by decide) ?_
    cases h
    exact ev_iret od_151_55 rfl hP
  · rw [if_neg hc7] at h
    refine ev_aload_n od_151_42 rfl ?_
    obtain ⟨y4, hy4, h⟩ := ov_bd h
    try dsimp only at h
    refine ev_cvi (y := 149) (n := 0) (a := 42) (c := 8) (as := []) (rest := []) (dc := 1) oc_151_43 rfl rfl rfl oO_42 rfl rfl rfl rfl (by decide) (R149  hy4) ?_
    refine ev_iload_n od_151_46 rfl ?_
    obtain ⟨y5, hy5, h⟩ := ov_bd h
    try dsimp only at h
    refine ev_csi (y := 152) (n := 2) (as := [.int y4, .int s0]) (rest := []) (dc := 1) oc_151_47 rfl rfl rfl rfl rfl (by decide) (R152  hy5) ?_
    refine ev_if_eq (t := 56) od_151_50 (by decide) (fun hc6 => ?_) (fun hc6 => ?_)
    · rw [if_pos hc6] at h
      refine ev_aload_n od_151_56 rfl ?_
      refine ev_dup od_151_57 rfl ?_
      refine ev_gf (v := .int (S 42 3)) og_151_58 oO_42 rfl ?_
      refine ev_iconst (v := (1 : Int32)) od_151_61 (by decide) ?_
      refine ev_iadd od_151_62 ?_
      refine ev_pf op_151_63 oO_42 rfl rfl ?_
      refine ev_iload_n od_151_66 rfl ?_
      cases h
      exact ev_iret od_151_67 rfl hP
    · rw [if_neg hc6] at h
      refine ev_bipush (v := (-9 : Int32)) od_151_53 (by decide) ?_
      cases h
      exact ev_iret od_151_55 rfl hP
def f151 (S : ov_S) (x1 : Int32) : Option (Int32 × ov_S) :=
  (if (S 42 3) = (S 42 2) then f151_28 S x1 (-9 : Int32) else ov_ck (ov_ibb (S 42 3) 60) (f151_28 S x1 ((S 43 ((S 42 3)).toNatClampNeg) - (97 : Int32))))
theorem t151 {L : Nat} {S : ov_S} {G : ov_L2} {x1 : Int32} {P : Option Value → ov_S → ov_L2 → Prop}  {out : Int32 × ov_S} (h : f151 S x1 = some out) (hP : P (some (.int out.1)) out.2 G) : ov_J L 1 151 0 [some (.ref 42), some (.int x1), none] [] S G P := by
  unfold f151 at h
  refine ev_aload_n od_151_0 rfl ?_
  refine ev_gf (v := .int (S 42 3)) og_151_1 oO_42 rfl ?_
  refine ev_aload_n od_151_4 rfl ?_
  refine ev_gf (v := .int (S 42 2)) og_151_5 oO_42 rfl ?_
  refine ev_icmp_ne (t := 16) od_151_8 (by decide) (fun hc8 => ?_) (fun hc8 => ?_)
  · rw [if_neg hc8] at h
    refine ev_aload_n od_151_16 rfl ?_
    refine ev_gf (v := .ref 43) og_151_17 oO_42 rfl ?_
    refine ev_aload_n od_151_20 rfl ?_
    refine ev_gf (v := .int (S 42 3)) og_151_21 oO_42 rfl ?_
    obtain ⟨bq1, h⟩ := ov_ck_ok h
    refine ev_iald od_151_24 oA_43 (ov_ibk bq1) ?_
    refine ev_bipush (v := (97 : Int32)) od_151_25 (by decide) ?_
    refine ev_isub od_151_27 ?_
    exact t151_28  h hP
  · rw [if_pos hc8] at h
    refine ev_bipush (v := (-9 : Int32)) od_151_11 (by decide) ?_
    refine ev_goto (t := 28) od_151_13 (by decide) ?_
    exact t151_28  h hP
theorem R151 {L : Nat} {S : ov_S} {G : ov_L2} {x1 : Int32}  {out : Int32 × ov_S} (h : f151 S x1 = some out) : ov_R L 2 151 [.ref 42, .int x1] S G (some (.int out.1)) out.2 G :=
  ov_Rof (t151  h ⟨rfl, rfl, rfl⟩)
-- 155 OEModel.figure
def f155 (S : ov_S) (x1 : Int32) (x2 : Int32) : Option (Int32 × ov_S) :=
  (if (S 42 3) = (S 42 2) then some ((-9 : Int32), S) else ov_ck (ov_ibb (S 42 3) 60) ((f144 (((S 43 ((S 42 3)).toNatClampNeg) - (48 : Int32))).toInt64 (x1).toInt64 (x2).toInt64).bind fun y2 => (if y2 = 0 then some ((-9 : Int32), S) else ov_ck (ov_ibb (((ov_up S 42 3 ((S 42 3) + (1 : Int32))) 42 3) - (1 : Int32)) 60) (some ((((ov_up S 42 3 ((S 42 3) + (1 : Int32))) 43 ((((ov_up S 42 3 ((S 42 3) + (1 : Int32))) 42 3) - (1 : Int32))).toNatClampNeg) - (48 : Int32)), (ov_up S 42 3 ((S 42 3) + (1 : Int32))))))))
theorem t155 {L : Nat} {S : ov_S} {G : ov_L2} {x1 : Int32} {x2 : Int32} {P : Option Value → ov_S → ov_L2 → Prop}  {out : Int32 × ov_S} (h : f155 S x1 x2 = some out) (hP : P (some (.int out.1)) out.2 G) : ov_J L 1 155 0 [some (.ref 42), some (.int x1), some (.int x2)] [] S G P := by
  unfold f155 at h
  refine ev_aload_n od_155_0 rfl ?_
  refine ev_gf (v := .int (S 42 3)) og_155_1 oO_42 rfl ?_
  refine ev_aload_n od_155_4 rfl ?_
  refine ev_gf (v := .int (S 42 2)) og_155_5 oO_42 rfl ?_
  refine ev_icmp_eq (t := 34) od_155_8 (by decide) (fun hc5 => ?_) (fun hc5 => ?_)
  · rw [if_pos hc5] at h
    refine ev_bipush (v := (-9 : Int32)) od_155_34 (by decide) ?_
    cases h
    exact ev_iret od_155_36 rfl hP
  · rw [if_neg hc5] at h
    refine ev_aload_n od_155_11 rfl ?_
    refine ev_gf (v := .ref 43) og_155_12 oO_42 rfl ?_
    refine ev_aload_n od_155_15 rfl ?_
    refine ev_gf (v := .int (S 42 3)) og_155_16 oO_42 rfl ?_
    obtain ⟨bq1, h⟩ := ov_ck_ok h
    refine ev_iald od_155_19 oA_43 (ov_ibk bq1) ?_
    refine ev_bipush (v := (48 : Int32)) od_155_20 (by decide) ?_
    refine ev_isub od_155_22 ?_
    refine ev_i2l od_155_23 ?_
    refine ev_iload_n od_155_24 rfl ?_
    refine ev_i2l od_155_25 ?_
    refine ev_iload_n od_155_26 rfl ?_
    refine ev_i2l od_155_27 ?_
    obtain ⟨y2, hy2, h⟩ := ov_bd h
    try dsimp only at h
    refine ev_csi (y := 144) (n := 3) (as := [.long (((S 43 ((S 42 3)).toNatClampNeg) - (48 : Int32))).toInt64, .long (x1).toInt64, .long (x2).toInt64]) (rest := []) (dc := 1) oc_155_28 rfl rfl rfl rfl rfl (by decide) (R144  hy2) ?_
    refine ev_if_ne (t := 37) od_155_31 (by decide) (fun hc4 => ?_) (fun hc4 => ?_)
    · rw [if_neg hc4] at h
      refine ev_aload_n od_155_37 rfl ?_
      refine ev_dup od_155_38 rfl ?_
      refine ev_gf (v := .int (S 42 3)) og_155_39 oO_42 rfl ?_
      refine ev_iconst (v := (1 : Int32)) od_155_42 (by decide) ?_
      refine ev_iadd od_155_43 ?_
      refine ev_pf op_155_44 oO_42 rfl rfl ?_
      refine ev_aload_n od_155_47 rfl ?_
      refine ev_gf (v := .ref 43) og_155_48 oO_42 rfl ?_
      refine ev_aload_n od_155_51 rfl ?_
      refine ev_gf (v := .int ((ov_up S 42 3 ((S 42 3) + (1 : Int32))) 42 3)) og_155_52 oO_42 rfl ?_
      refine ev_iconst (v := (1 : Int32)) od_155_55 (by decide) ?_
      refine ev_isub od_155_56 ?_
      obtain ⟨bq3, h⟩ := ov_ck_ok h
      refine ev_iald od_155_57 oA_43 (ov_ibk bq3) ?_
      refine ev_bipush (v := (48 : Int32)) od_155_58 (by decide) ?_
      refine ev_isub od_155_60 ?_
      cases h
      exact ev_iret od_155_61 rfl hP
    · rw [if_pos hc4] at h
      refine ev_bipush (v := (-9 : Int32)) od_155_34 (by decide) ?_
      cases h
      exact ev_iret od_155_36 rfl hP
theorem R155 {L : Nat} {S : ov_S} {G : ov_L2} {x1 : Int32} {x2 : Int32}  {out : Int32 × ov_S} (h : f155 S x1 x2 = some out) : ov_R L 2 155 [.ref 42, .int x1, .int x2] S G (some (.int out.1)) out.2 G :=
  ov_Rof (t155  h ⟨rfl, rfl, rfl⟩)
-- 161 OEModel.seen
def f161_29_4 (p1 : Nat) (S : ov_S) (x3 : Int32) (s0 : Int32) (s1 : Int32) : Option ((Int32 × Int32) ⊕ (Int32)) :=
  some (.inl ((s1 ||| s0), (x3 + (1 : Int32))))
theorem t161_29_4 {L : Nat} {S : ov_S} {G : ov_L2} {p1 : Nat} {x3 : Int32} {s0 : Int32} {s1 : Int32} {P : Option Value → ov_S → ov_L2 → Prop} (hp1 : ov_A 1 p1) {out : (Int32 × Int32) ⊕ (Int32)} (h : f161_29_4 p1 S x3 s0 s1 = some out) (hk : ov_sm (σ := Int32 × Int32) (ε := (Int32)) (fun s => ov_J L 1 161 4 [some (.ref 42), some (.ref p1), some (.int s.1), some (.int s.2)] [] S G P) (fun e => ov_J L 1 161 37 [none, none, some (.int e), none] [] S G P) out) : ov_J L 1 161 29 [some (.ref 42), some (.ref p1), none, some (.int x3)] [.int s0, .int s1] S G P := by
  unfold f161_29_4 at h
  refine ev_ior od_161_29 ?_
  refine ev_istore_n (lv1 := [some (.ref 42), some (.ref p1), some (.int (s1 ||| s0)), some (.int x3)]) od_161_30 rfl rfl ?_
  refine ev_iinc (v := (x3 + (1 : Int32))) (lv1 := [some (.ref 42), some (.ref p1), some (.int (s1 ||| s0)), some (.int (x3 + (1 : Int32)))]) od_161_31 rfl rfl rfl ?_
  refine ev_goto (t := 4) od_161_34 (by decide) ?_
  cases h
  exact hk
def b161_4 (p1 : Nat) (S : ov_S) (x2 : Int32) (x3 : Int32) : Option ((Int32 × Int32) ⊕ (Int32)) :=
  (if (S 42 7) ≤ x3 then some (.inr x2) else (f162 p1 S x3).bind fun y1 => (if y1 = 0 then f161_29_4 p1 S x3 (0 : Int32) x2 else f161_29_4 p1 S x3 ((1 : Int32) <<< (x3 &&& 31)) x2))
theorem bt161_4 {L : Nat} {S : ov_S} {G : ov_L2} {p1 : Nat} {x2 : Int32} {x3 : Int32} {P : Option Value → ov_S → ov_L2 → Prop} (hp1 : ov_A 1 p1) {out : (Int32 × Int32) ⊕ (Int32)} (h : b161_4 p1 S x2 x3 = some out) (hk : ov_sm (σ := Int32 × Int32) (ε := (Int32)) (fun s => ov_J L 1 161 4 [some (.ref 42), some (.ref p1), some (.int s.1), some (.int s.2)] [] S G P) (fun e => ov_J L 1 161 37 [none, none, some (.int e), none] [] S G P) out) : ov_J L 1 161 4 [some (.ref 42), some (.ref p1), some (.int x2), some (.int x3)] [] S G P := by
  unfold b161_4 at h
  refine ev_iload_n od_161_4 rfl ?_
  refine ev_aload_n od_161_5 rfl ?_
  refine ev_gf (v := .int (S 42 7)) og_161_6 oO_42 rfl ?_
  refine ev_icmp_ge (t := 37) od_161_9 (by decide) (fun hc3 => ?_) (fun hc3 => ?_)
  · rw [if_pos hc3] at h
    cases h
    refine ev_fg (lv0 := [none, none, some (.int x2), none]) (ov_le_n (ov_le_n (ov_le_s (ov_le_n (ov_le_e))))) ?_
    exact hk
  · rw [if_neg hc3] at h
    refine ev_iload_n od_161_12 rfl ?_
    refine ev_aload_n od_161_13 rfl ?_
    refine ev_aload_n od_161_14 rfl ?_
    refine ev_iload_n od_161_15 rfl ?_
    obtain ⟨y1, hy1, h⟩ := ov_bd h
    try dsimp only at h
    refine ev_cvi (y := 162) (n := 2) (a := 42) (c := 8) (as := [.ref p1, .int x3]) (rest := [.int x2]) (dc := 1) oc_161_16 rfl rfl rfl oO_42 rfl rfl rfl rfl (by decide) (R162 hp1 hy1) ?_
    refine ev_if_eq (t := 28) od_161_19 (by decide) (fun hc2 => ?_) (fun hc2 => ?_)
    · rw [if_pos hc2] at h
      refine ev_iconst (v := (0 : Int32)) od_161_28 (by decide) ?_
      refine ev_fg (lv0 := [some (.ref 42), some (.ref p1), none, some (.int x3)]) (ov_le_s (ov_le_s (ov_le_n (ov_le_s (ov_le_e))))) ?_
      exact t161_29_4 hp1 h hk
    · rw [if_neg hc2] at h
      refine ev_iconst (v := (1 : Int32)) od_161_22 (by decide) ?_
      refine ev_iload_n od_161_23 rfl ?_
      refine ev_ishl od_161_24 ?_
      refine ev_goto (t := 29) od_161_25 (by decide) ?_
      refine ev_fg (lv0 := [some (.ref 42), some (.ref p1), none, some (.int x3)]) (ov_le_s (ov_le_s (ov_le_n (ov_le_s (ov_le_e))))) ?_
      exact t161_29_4 hp1 h hk
def f161 (p1 : Nat) (S : ov_S) : Option (Int32) :=
  ((ov_lp (fun s => b161_4 p1 S s.1 s.2) 2000 ((0 : Int32), (0 : Int32))).bind fun e4 => some e4)
theorem t161 {L : Nat} {S : ov_S} {G : ov_L2} {p1 : Nat} {P : Option Value → ov_S → ov_L2 → Prop} (hp1 : ov_A 1 p1) {out : Int32} (h : f161 p1 S = some out) (hP : P (some (.int out)) S G) : ov_J L 1 161 0 [some (.ref 42), some (.ref p1), none, none] [] S G P := by
  unfold f161 at h
  refine ev_iconst (v := (0 : Int32)) od_161_0 (by decide) ?_
  refine ev_istore_n (lv1 := [some (.ref 42), some (.ref p1), some (.int (0 : Int32)), none]) od_161_1 rfl rfl ?_
  refine ev_iconst (v := (0 : Int32)) od_161_2 (by decide) ?_
  refine ev_istore_n (lv1 := [some (.ref 42), some (.ref p1), some (.int (0 : Int32)), some (.int (0 : Int32))]) od_161_3 rfl rfl ?_
  obtain ⟨e4, he4, h⟩ := ov_bd h
  try dsimp only at h
  refine ov_lp_S (body := (fun s => b161_4 p1 S s.1 s.2)) (head := (fun s => ov_J L 1 161 4 [some (.ref 42), some (.ref p1), some (.int s.1), some (.int s.2)] [] S G P)) (exit := (fun e => ov_J L 1 161 37 [none, none, some (.int e), none] [] S G P)) (fun s r hb hk => bt161_4 hp1 hb hk) 2000 ((0 : Int32), (0 : Int32)) e4 he4 ?_
  show ov_J L 1 161 37 [none, none, some (.int e4), none] [] S G P
  refine ev_iload_n od_161_37 rfl ?_
  cases h
  exact ev_iret od_161_38 rfl hP
theorem R161 {L : Nat} {S : ov_S} {G : ov_L2} {p1 : Nat} (hp1 : ov_A 1 p1) {out : Int32} (h : f161 p1 S = some out) : ov_R L 2 161 [.ref 42, .ref p1] S G (some (.int out)) S G :=
  ov_Rof (t161 hp1 h ⟨rfl, rfl, rfl⟩)
-- 166 OEModel.between
def b166_95 (x1 : Int32) (x4 : Int32) (x5 : Int32) (x6 : Int32) : Option ((Int32 × Int32) ⊕ (Int32)) :=
  (if x6 = x1 then some (.inr x5) else some (.inl ((x5 ||| ((1 : Int32) <<< (x6 &&& 31))), (x6 + x4))))
theorem bt166_95 {L : Nat} {S : ov_S} {G : ov_L2} {x1 : Int32} {x4 : Int32} {x5 : Int32} {x6 : Int32} {P : Option Value → ov_S → ov_L2 → Prop}  {out : (Int32 × Int32) ⊕ (Int32)} (h : b166_95 x1 x4 x5 x6 = some out) (hk : ov_sm (σ := Int32 × Int32) (ε := (Int32)) (fun s => ov_J L 1 166 95 [none, some (.int x1), none, none, some (.int x4), some (.int s.1), some (.int s.2)] [] S G P) (fun e => ov_J L 1 166 120 [none, none, none, none, none, some (.int e), none] [] S G P) out) : ov_J L 1 166 95 [none, some (.int x1), none, none, some (.int x4), some (.int x5), some (.int x6)] [] S G P := by
  unfold b166_95 at h
  refine ev_iload od_166_95 rfl ?_
  refine ev_iload_n od_166_97 rfl ?_
  refine ev_icmp_eq (t := 120) od_166_98 (by decide) (fun hc1 => ?_) (fun hc1 => ?_)
  · rw [if_pos hc1] at h
    cases h
    refine ev_fg (lv0 := [none, none, none, none, none, some (.int x5), none]) (ov_le_n (ov_le_n (ov_le_n (ov_le_n (ov_le_n (ov_le_s (ov_le_n (ov_le_e)))))))) ?_
    exact hk
  · rw [if_neg hc1] at h
    refine ev_iload od_166_101 rfl ?_
    refine ev_iconst (v := (1 : Int32)) od_166_103 (by decide) ?_
    refine ev_iload od_166_104 rfl ?_
    refine ev_ishl od_166_106 ?_
    refine ev_ior od_166_107 ?_
    refine ev_istore (lv1 := [none, some (.int x1), none, none, some (.int x4), some (.int (x5 ||| ((1 : Int32) <<< (x6 &&& 31)))), some (.int x6)]) od_166_108 rfl rfl ?_
    refine ev_iload od_166_110 rfl ?_
    refine ev_iload od_166_112 rfl ?_
    refine ev_iadd od_166_114 ?_
    refine ev_istore (lv1 := [none, some (.int x1), none, none, some (.int x4), some (.int (x5 ||| ((1 : Int32) <<< (x6 &&& 31)))), some (.int (x6 + x4))]) od_166_115 rfl rfl ?_
    refine ev_goto (t := 95) od_166_117 (by decide) ?_
    cases h
    exact hk
def f166_83 (x0 : Int32) (x1 : Int32) (s0 : Int32) (s1 : Int32) : Option (Int32) :=
  ((ov_lp (fun s => b166_95 x1 (s1 + s0) s.1 s.2) 2000 ((0 : Int32), (x0 + (s1 + s0)))).bind fun e2 => some e2)
theorem t166_83 {L : Nat} {S : ov_S} {G : ov_L2} {x0 : Int32} {x1 : Int32} {s0 : Int32} {s1 : Int32} {P : Option Value → ov_S → ov_L2 → Prop}  {out : Int32} (h : f166_83 x0 x1 s0 s1 = some out) (hP : P (some (.int out)) S G) : ov_J L 1 166 83 [some (.int x0), some (.int x1), none, none, none, none, none] [.int s0, .int s1] S G P := by
  unfold f166_83 at h
  refine ev_iadd od_166_83 ?_
  refine ev_istore (lv1 := [some (.int x0), some (.int x1), none, none, some (.int (s1 + s0)), none, none]) od_166_84 rfl rfl ?_
  refine ev_iconst (v := (0 : Int32)) od_166_86 (by decide) ?_
  refine ev_istore (lv1 := [some (.int x0), some (.int x1), none, none, some (.int (s1 + s0)), some (.int (0 : Int32)), none]) od_166_87 rfl rfl ?_
  refine ev_iload_n od_166_89 rfl ?_
  refine ev_iload od_166_90 rfl ?_
  refine ev_iadd od_166_92 ?_
  refine ev_istore (lv1 := [some (.int x0), some (.int x1), none, none, some (.int (s1 + s0)), some (.int (0 : Int32)), some (.int (x0 + (s1 + s0)))]) od_166_93 rfl rfl ?_
  obtain ⟨e2, he2, h⟩ := ov_bd h
  try dsimp only at h
  refine ev_fg (lv0 := [none, some (.int x1), none, none, some (.int (s1 + s0)), some (.int (0 : Int32)), some (.int (x0 + (s1 + s0)))]) (ov_le_n (ov_le_s (ov_le_n (ov_le_n (ov_le_s (ov_le_s (ov_le_s (ov_le_e)))))))) ?_
  refine ov_lp_S (body := (fun s => b166_95 x1 (s1 + s0) s.1 s.2)) (head := (fun s => ov_J L 1 166 95 [none, some (.int x1), none, none, some (.int (s1 + s0)), some (.int s.1), some (.int s.2)] [] S G P)) (exit := (fun e => ov_J L 1 166 120 [none, none, none, none, none, some (.int e), none] [] S G P)) (fun s r hb hk => bt166_95  hb hk) 2000 ((0 : Int32), (x0 + (s1 + s0))) e2 he2 ?_
  show ov_J L 1 166 120 [none, none, none, none, none, some (.int e2), none] [] S G P
  refine ev_iload od_166_120 rfl ?_
  cases h
  exact ev_iret od_166_122 rfl hP
def f166_66 (x0 : Int32) (x1 : Int32) (x3 : Int32) (s0 : Int32) : Option (Int32) :=
  (if x3 ≤ 0 then (if 0 ≤ x3 then f166_83 x0 x1 (0 : Int32) s0 else f166_83 x0 x1 (-1 : Int32) s0) else f166_83 x0 x1 (1 : Int32) s0)
theorem t166_66 {L : Nat} {S : ov_S} {G : ov_L2} {x0 : Int32} {x1 : Int32} {x3 : Int32} {s0 : Int32} {P : Option Value → ov_S → ov_L2 → Prop}  {out : Int32} (h : f166_66 x0 x1 x3 s0 = some out) (hP : P (some (.int out)) S G) : ov_J L 1 166 66 [some (.int x0), some (.int x1), none, some (.int x3), none, none, none] [.int s0] S G P := by
  unfold f166_66 at h
  refine ev_iload_n od_166_66 rfl ?_
  refine ev_if_le (t := 74) od_166_67 (by decide) (fun hc4 => ?_) (fun hc4 => ?_)
  · rw [if_pos hc4] at h
    refine ev_iload_n od_166_74 rfl ?_
    refine ev_if_ge (t := 82) od_166_75 (by decide) (fun hc3 => ?_) (fun hc3 => ?_)
    · rw [if_pos hc3] at h
      refine ev_iconst (v := (0 : Int32)) od_166_82 (by decide) ?_
      refine ev_fg (lv0 := [some (.int x0), some (.int x1), none, none, none, none, none]) (ov_le_s (ov_le_s (ov_le_n (ov_le_n (ov_le_n (ov_le_n (ov_le_n (ov_le_e)))))))) ?_
      exact t166_83  h hP
    · rw [if_neg hc3] at h
      refine ev_iconst (v := (-1 : Int32)) od_166_78 (by decide) ?_
      refine ev_goto (t := 83) od_166_79 (by decide) ?_
      refine ev_fg (lv0 := [some (.int x0), some (.int x1), none, none, none, none, none]) (ov_le_s (ov_le_s (ov_le_n (ov_le_n (ov_le_n (ov_le_n (ov_le_n (ov_le_e)))))))) ?_
      exact t166_83  h hP
  · rw [if_neg hc4] at h
    refine ev_iconst (v := (1 : Int32)) od_166_70 (by decide) ?_
    refine ev_goto (t := 83) od_166_71 (by decide) ?_
    refine ev_fg (lv0 := [some (.int x0), some (.int x1), none, none, none, none, none]) (ov_le_s (ov_le_s (ov_le_n (ov_le_n (ov_le_n (ov_le_n (ov_le_n (ov_le_e)))))))) ?_
    exact t166_83  h hP
def f166_47 (x0 : Int32) (x1 : Int32) (x2 : Int32) (x3 : Int32) : Option (Int32) :=
  (if x2 ≤ 0 then (if 0 ≤ x2 then f166_66 x0 x1 x3 (0 : Int32) else f166_66 x0 x1 x3 (-6 : Int32)) else f166_66 x0 x1 x3 (6 : Int32))
theorem t166_47 {L : Nat} {S : ov_S} {G : ov_L2} {x0 : Int32} {x1 : Int32} {x2 : Int32} {x3 : Int32} {P : Option Value → ov_S → ov_L2 → Prop}  {out : Int32} (h : f166_47 x0 x1 x2 x3 = some out) (hP : P (some (.int out)) S G) : ov_J L 1 166 47 [some (.int x0), some (.int x1), some (.int x2), some (.int x3), none, none, none] [] S G P := by
  unfold f166_47 at h
  refine ev_iload_n od_166_47 rfl ?_
  refine ev_if_le (t := 56) od_166_48 (by decide) (fun hc6 => ?_) (fun hc6 => ?_)
  · rw [if_pos hc6] at h
    refine ev_iload_n od_166_56 rfl ?_
    refine ev_if_ge (t := 65) od_166_57 (by decide) (fun hc5 => ?_) (fun hc5 => ?_)
    · rw [if_pos hc5] at h
      refine ev_iconst (v := (0 : Int32)) od_166_65 (by decide) ?_
      refine ev_fg (lv0 := [some (.int x0), some (.int x1), none, some (.int x3), none, none, none]) (ov_le_s (ov_le_s (ov_le_n (ov_le_s (ov_le_n (ov_le_n (ov_le_n (ov_le_e)))))))) ?_
      exact t166_66  h hP
    · rw [if_neg hc5] at h
      refine ev_bipush (v := (-6 : Int32)) od_166_60 (by decide) ?_
      refine ev_goto (t := 66) od_166_62 (by decide) ?_
      refine ev_fg (lv0 := [some (.int x0), some (.int x1), none, some (.int x3), none, none, none]) (ov_le_s (ov_le_s (ov_le_n (ov_le_s (ov_le_n (ov_le_n (ov_le_n (ov_le_e)))))))) ?_
      exact t166_66  h hP
  · rw [if_neg hc6] at h
    refine ev_bipush (v := (6 : Int32)) od_166_51 (by decide) ?_
    refine ev_goto (t := 66) od_166_53 (by decide) ?_
    refine ev_fg (lv0 := [some (.int x0), some (.int x1), none, some (.int x3), none, none, none]) (ov_le_s (ov_le_s (ov_le_n (ov_le_s (ov_le_n (ov_le_n (ov_le_n (ov_le_e)))))))) ?_
    exact t166_66  h hP
def f166 (x0 : Int32) (x1 : Int32) : Option (Int32) :=
  (if x0 = x1 then some (-9 : Int32) else (if ((x1 / (6 : Int32)) - (x0 / (6 : Int32))) = 0 then f166_47 x0 x1 ((x1 / (6 : Int32)) - (x0 / (6 : Int32))) ((x1 - x1 / (6 : Int32) * (6 : Int32)) - (x0 - x0 / (6 : Int32) * (6 : Int32))) else (if ((x1 - x1 / (6 : Int32) * (6 : Int32)) - (x0 - x0 / (6 : Int32) * (6 : Int32))) = 0 then f166_47 x0 x1 ((x1 / (6 : Int32)) - (x0 / (6 : Int32))) ((x1 - x1 / (6 : Int32) * (6 : Int32)) - (x0 - x0 / (6 : Int32) * (6 : Int32))) else (f167 ((x1 / (6 : Int32)) - (x0 / (6 : Int32)))).bind fun y7 => (f167 ((x1 - x1 / (6 : Int32) * (6 : Int32)) - (x0 - x0 / (6 : Int32) * (6 : Int32)))).bind fun y8 => (if y7 = y8 then f166_47 x0 x1 ((x1 / (6 : Int32)) - (x0 / (6 : Int32))) ((x1 - x1 / (6 : Int32) * (6 : Int32)) - (x0 - x0 / (6 : Int32) * (6 : Int32))) else some (-9 : Int32)))))
theorem t166 {L : Nat} {S : ov_S} {G : ov_L2} {x0 : Int32} {x1 : Int32} {P : Option Value → ov_S → ov_L2 → Prop}  {out : Int32} (h : f166 x0 x1 = some out) (hP : P (some (.int out)) S G) : ov_J L 1 166 0 [some (.int x0), some (.int x1), none, none, none, none, none] [] S G P := by
  unfold f166 at h
  refine ev_iload_n od_166_0 rfl ?_
  refine ev_bipush (v := (6 : Int32)) od_166_1 (by decide) ?_
  refine ev_idiv od_166_3 (by decide) ?_
  refine ev_iload_n od_166_4 rfl ?_
  refine ev_bipush (v := (6 : Int32)) od_166_5 (by decide) ?_
  refine ev_idiv od_166_7 (by decide) ?_
  refine ev_isub od_166_8 ?_
  refine ev_istore_n (lv1 := [some (.int x0), some (.int x1), some (.int ((x1 / (6 : Int32)) - (x0 / (6 : Int32)))), none, none, none, none]) od_166_9 rfl rfl ?_
  refine ev_iload_n od_166_10 rfl ?_
  refine ev_bipush (v := (6 : Int32)) od_166_11 (by decide) ?_
  refine ev_irem od_166_13 (by decide) ?_
  refine ev_iload_n od_166_14 rfl ?_
  refine ev_bipush (v := (6 : Int32)) od_166_15 (by decide) ?_
  refine ev_irem od_166_17 (by decide) ?_
  refine ev_isub od_166_18 ?_
  refine ev_istore_n (lv1 := [some (.int x0), some (.int x1), some (.int ((x1 / (6 : Int32)) - (x0 / (6 : Int32)))), some (.int ((x1 - x1 / (6 : Int32) * (6 : Int32)) - (x0 - x0 / (6 : Int32) * (6 : Int32)))), none, none, none]) od_166_19 rfl rfl ?_
  refine ev_iload_n od_166_20 rfl ?_
  refine ev_iload_n od_166_21 rfl ?_
  refine ev_icmp_eq (t := 44) od_166_22 (by decide) (fun hc12 => ?_) (fun hc12 => ?_)
  · rw [if_pos hc12] at h
    refine ev_bipush (v := (-9 : Int32)) od_166_44 (by decide) ?_
    cases h
    exact ev_iret od_166_46 rfl hP
  · rw [if_neg hc12] at h
    refine ev_iload_n od_166_25 rfl ?_
    refine ev_if_eq (t := 47) od_166_26 (by decide) (fun hc11 => ?_) (fun hc11 => ?_)
    · rw [if_pos hc11] at h
      exact t166_47  h hP
    · rw [if_neg hc11] at h
      refine ev_iload_n od_166_29 rfl ?_
      refine ev_if_eq (t := 47) od_166_30 (by decide) (fun hc10 => ?_) (fun hc10 => ?_)
      · rw [if_pos hc10] at h
        exact t166_47  h hP
      · rw [if_neg hc10] at h
        refine ev_iload_n od_166_33 rfl ?_
        obtain ⟨y7, hy7, h⟩ := ov_bd h
        try dsimp only at h
        refine ev_csi (y := 167) (n := 1) (as := [.int ((x1 / (6 : Int32)) - (x0 / (6 : Int32)))]) (rest := []) (dc := 1) oc_166_34 rfl rfl rfl rfl rfl (by decide) (R167  hy7) ?_
        refine ev_iload_n od_166_37 rfl ?_
        obtain ⟨y8, hy8, h⟩ := ov_bd h
        try dsimp only at h
        refine ev_csi (y := 167) (n := 1) (as := [.int ((x1 - x1 / (6 : Int32) * (6 : Int32)) - (x0 - x0 / (6 : Int32) * (6 : Int32)))]) (rest := [.int y7]) (dc := 1) oc_166_38 rfl rfl rfl rfl rfl (by decide) (R167  hy8) ?_
        refine ev_icmp_eq (t := 47) od_166_41 (by decide) (fun hc9 => ?_) (fun hc9 => ?_)
        · rw [if_pos hc9] at h
          exact t166_47  h hP
        · rw [if_neg hc9] at h
          refine ev_bipush (v := (-9 : Int32)) od_166_44 (by decide) ?_
          cases h
          exact ev_iret od_166_46 rfl hP
theorem R166 {L : Nat} {S : ov_S} {G : ov_L2} {x0 : Int32} {x1 : Int32}  {out : Int32} (h : f166 x0 x1 = some out) : ov_R L 2 166 [.int x0, .int x1] S G (some (.int out)) S G :=
  ov_Rof (t166  h ⟨rfl, rfl, rfl⟩)
-- 169 OEModel.standOn
def f169_70_5 (p1 : Nat) (S : ov_S) (x2 : Int32) (x4 : Int32) (s0 : Int32) (s1 : Int32) : Option ((Int32 × Int32) ⊕ (Int32)) :=
  some (.inl ((s1 ||| s0), (x4 + (1 : Int32))))
theorem t169_70_5 {L : Nat} {S : ov_S} {G : ov_L2} {p1 : Nat} {x2 : Int32} {x4 : Int32} {s0 : Int32} {s1 : Int32} {P : Option Value → ov_S → ov_L2 → Prop} (hp1 : ov_A 1 p1) {out : (Int32 × Int32) ⊕ (Int32)} (h : f169_70_5 p1 S x2 x4 s0 s1 = some out) (hk : ov_sm (σ := Int32 × Int32) (ε := (Int32)) (fun s => ov_J L 1 169 5 [some (.ref 42), some (.ref p1), some (.int x2), some (.int s.1), some (.int s.2), none] [] S G P) (fun e => ov_J L 1 169 78 [none, none, none, some (.int e), none, none] [] S G P) out) : ov_J L 1 169 70 [some (.ref 42), some (.ref p1), some (.int x2), none, some (.int x4), none] [.int s0, .int s1] S G P := by
  unfold f169_70_5 at h
  refine ev_ior od_169_70 ?_
  refine ev_istore_n (lv1 := [some (.ref 42), some (.ref p1), some (.int x2), some (.int (s1 ||| s0)), some (.int x4), none]) od_169_71 rfl rfl ?_
  refine ev_iinc (v := (x4 + (1 : Int32))) (lv1 := [some (.ref 42), some (.ref p1), some (.int x2), some (.int (s1 ||| s0)), some (.int (x4 + (1 : Int32))), none]) od_169_72 rfl rfl rfl ?_
  refine ev_goto (t := 5) od_169_75 (by decide) ?_
  cases h
  exact hk
def f169_54_5 (p1 : Nat) (S : ov_S) (x2 : Int32) (x3 : Int32) (x4 : Int32) (s0 : Int32) : Option ((Int32 × Int32) ⊕ (Int32)) :=
  (if s0 = 0 then f169_70_5 p1 S x2 x4 (0 : Int32) x3 else f169_70_5 p1 S x2 x4 ((1 : Int32) <<< (x4 &&& 31)) x3)
theorem t169_54_5 {L : Nat} {S : ov_S} {G : ov_L2} {p1 : Nat} {x2 : Int32} {x3 : Int32} {x4 : Int32} {s0 : Int32} {P : Option Value → ov_S → ov_L2 → Prop} (hp1 : ov_A 1 p1) {out : (Int32 × Int32) ⊕ (Int32)} (h : f169_54_5 p1 S x2 x3 x4 s0 = some out) (hk : ov_sm (σ := Int32 × Int32) (ε := (Int32)) (fun s => ov_J L 1 169 5 [some (.ref 42), some (.ref p1), some (.int x2), some (.int s.1), some (.int s.2), none] [] S G P) (fun e => ov_J L 1 169 78 [none, none, none, some (.int e), none, none] [] S G P) out) : ov_J L 1 169 54 [some (.ref 42), some (.ref p1), some (.int x2), some (.int x3), some (.int x4), none] [.int s0] S G P := by
  unfold f169_54_5 at h
  refine ev_istore (lv1 := [some (.ref 42), some (.ref p1), some (.int x2), some (.int x3), some (.int x4), some (.int s0)]) od_169_54 rfl rfl ?_
  refine ev_iload_n od_169_56 rfl ?_
  refine ev_iload od_169_57 rfl ?_
  refine ev_if_eq (t := 69) od_169_59 (by decide) (fun hc2 => ?_) (fun hc2 => ?_)
  · rw [if_pos hc2] at h
    refine ev_iconst (v := (0 : Int32)) od_169_69 (by decide) ?_
    refine ev_fg (lv0 := [some (.ref 42), some (.ref p1), some (.int x2), none, some (.int x4), none]) (ov_le_s (ov_le_s (ov_le_s (ov_le_n (ov_le_s (ov_le_n (ov_le_e))))))) ?_
    exact t169_70_5 hp1 h hk
  · rw [if_neg hc2] at h
    refine ev_iconst (v := (1 : Int32)) od_169_62 (by decide) ?_
    refine ev_iload od_169_63 rfl ?_
    refine ev_ishl od_169_65 ?_
    refine ev_goto (t := 70) od_169_66 (by decide) ?_
    refine ev_fg (lv0 := [some (.ref 42), some (.ref p1), some (.int x2), none, some (.int x4), none]) (ov_le_s (ov_le_s (ov_le_s (ov_le_n (ov_le_s (ov_le_n (ov_le_e))))))) ?_
    exact t169_70_5 hp1 h hk
def f169_53_5 (p1 : Nat) (S : ov_S) (x2 : Int32) (x3 : Int32) (x4 : Int32) : Option ((Int32 × Int32) ⊕ (Int32)) :=
  f169_54_5 p1 S x2 x3 x4 (0 : Int32)
theorem t169_53_5 {L : Nat} {S : ov_S} {G : ov_L2} {p1 : Nat} {x2 : Int32} {x3 : Int32} {x4 : Int32} {P : Option Value → ov_S → ov_L2 → Prop} (hp1 : ov_A 1 p1) {out : (Int32 × Int32) ⊕ (Int32)} (h : f169_53_5 p1 S x2 x3 x4 = some out) (hk : ov_sm (σ := Int32 × Int32) (ε := (Int32)) (fun s => ov_J L 1 169 5 [some (.ref 42), some (.ref p1), some (.int x2), some (.int s.1), some (.int s.2), none] [] S G P) (fun e => ov_J L 1 169 78 [none, none, none, some (.int e), none, none] [] S G P) out) : ov_J L 1 169 53 [some (.ref 42), some (.ref p1), some (.int x2), some (.int x3), some (.int x4), none] [] S G P := by
  unfold f169_53_5 at h
  refine ev_iconst (v := (0 : Int32)) od_169_53 (by decide) ?_
  exact t169_54_5 hp1 h hk
def b169_5 (p1 : Nat) (S : ov_S) (x2 : Int32) (x3 : Int32) (x4 : Int32) : Option ((Int32 × Int32) ⊕ (Int32)) :=
  (if (S 42 7) ≤ x4 then some (.inr x3) else ov_ck (ov_ibb ((0 : Int32) + x4) (ov_ln p1)) ((if (S p1 (((0 : Int32) + x4)).toNatClampNeg) = (-9 : Int32) then f169_53_5 p1 S x2 x3 x4 else ov_ck (ov_ibb x4 6) ((if (S 46 (x4).toNatClampNeg) = (2 : Int32) then f169_53_5 p1 S x2 x3 x4 else ov_ck (ov_ibb ((0 : Int32) + x4) (ov_ln p1)) ((f152 x2 (S p1 (((0 : Int32) + x4)).toNatClampNeg)).bind fun y5 => (if y5 = 0 then f169_53_5 p1 S x2 x3 x4 else f169_54_5 p1 S x2 x3 x4 (1 : Int32))))))))
theorem bt169_5 {L : Nat} {S : ov_S} {G : ov_L2} {p1 : Nat} {x2 : Int32} {x3 : Int32} {x4 : Int32} {P : Option Value → ov_S → ov_L2 → Prop} (hp1 : ov_A 1 p1) {out : (Int32 × Int32) ⊕ (Int32)} (h : b169_5 p1 S x2 x3 x4 = some out) (hk : ov_sm (σ := Int32 × Int32) (ε := (Int32)) (fun s => ov_J L 1 169 5 [some (.ref 42), some (.ref p1), some (.int x2), some (.int s.1), some (.int s.2), none] [] S G P) (fun e => ov_J L 1 169 78 [none, none, none, some (.int e), none, none] [] S G P) out) : ov_J L 1 169 5 [some (.ref 42), some (.ref p1), some (.int x2), some (.int x3), some (.int x4), none] [] S G P := by
  unfold b169_5 at h
  refine ev_iload od_169_5 rfl ?_
  refine ev_aload_n od_169_7 rfl ?_
  refine ev_gf (v := .int (S 42 7)) og_169_8 oO_42 rfl ?_
  refine ev_icmp_ge (t := 78) od_169_11 (by decide) (fun hc9 => ?_) (fun hc9 => ?_)
  · rw [if_pos hc9] at h
    cases h
    refine ev_fg (lv0 := [none, none, none, some (.int x3), none, none]) (ov_le_n (ov_le_n (ov_le_n (ov_le_s (ov_le_n (ov_le_n (ov_le_e))))))) ?_
    exact hk
  · rw [if_neg hc9] at h
    refine ev_aload_n od_169_14 rfl ?_
    refine ev_iconst (v := (0 : Int32)) od_169_15 (by decide) ?_
    refine ev_iload od_169_16 rfl ?_
    refine ev_iadd od_169_18 ?_
    obtain ⟨bq1, h⟩ := ov_ck_ok h
    refine ev_iald od_169_19 hp1 (ov_ibk bq1) ?_
    refine ev_bipush (v := (-9 : Int32)) od_169_20 (by decide) ?_
    refine ev_icmp_eq (t := 53) od_169_22 (by decide) (fun hc8 => ?_) (fun hc8 => ?_)
    · rw [if_pos hc8] at h
      exact t169_53_5 hp1 h hk
    · rw [if_neg hc8] at h
      refine ev_aload_n od_169_25 rfl ?_
      refine ev_gf (v := .ref 46) og_169_26 oO_42 rfl ?_
      refine ev_iload od_169_29 rfl ?_
      obtain ⟨bq3, h⟩ := ov_ck_ok h
      refine ev_iald od_169_31 oA_46 (ov_ibk bq3) ?_
      refine ev_iconst (v := (2 : Int32)) od_169_32 (by decide) ?_
      refine ev_icmp_eq (t := 53) od_169_33 (by decide) (fun hc7 => ?_) (fun hc7 => ?_)
      · rw [if_pos hc7] at h
        exact t169_53_5 hp1 h hk
      · rw [if_neg hc7] at h
        refine ev_iload_n od_169_36 rfl ?_
        refine ev_aload_n od_169_37 rfl ?_
        refine ev_iconst (v := (0 : Int32)) od_169_38 (by decide) ?_
        refine ev_iload od_169_39 rfl ?_
        refine ev_iadd od_169_41 ?_
        obtain ⟨bq4, h⟩ := ov_ck_ok h
        refine ev_iald od_169_42 hp1 (ov_ibk bq4) ?_
        obtain ⟨y5, hy5, h⟩ := ov_bd h
        try dsimp only at h
        refine ev_csi (y := 152) (n := 2) (as := [.int x2, .int (S p1 (((0 : Int32) + x4)).toNatClampNeg)]) (rest := []) (dc := 1) oc_169_43 rfl rfl rfl rfl rfl (by decide) (R152  hy5) ?_
        refine ev_if_eq (t := 53) od_169_46 (by decide) (fun hc6 => ?_) (fun hc6 => ?_)
        · rw [if_pos hc6] at h
          exact t169_53_5 hp1 h hk
        · rw [if_neg hc6] at h
          refine ev_iconst (v := (1 : Int32)) od_169_49 (by decide) ?_
          refine ev_goto (t := 54) od_169_50 (by decide) ?_
          exact t169_54_5 hp1 h hk
def f169 (p1 : Nat) (S : ov_S) (x2 : Int32) : Option (Int32) :=
  ((ov_lp (fun s => b169_5 p1 S x2 s.1 s.2) 2000 ((0 : Int32), (0 : Int32))).bind fun e10 => some e10)
theorem t169 {L : Nat} {S : ov_S} {G : ov_L2} {p1 : Nat} {x2 : Int32} {P : Option Value → ov_S → ov_L2 → Prop} (hp1 : ov_A 1 p1) {out : Int32} (h : f169 p1 S x2 = some out) (hP : P (some (.int out)) S G) : ov_J L 1 169 0 [some (.ref 42), some (.ref p1), some (.int x2), none, none, none] [] S G P := by
  unfold f169 at h
  refine ev_iconst (v := (0 : Int32)) od_169_0 (by decide) ?_
  refine ev_istore_n (lv1 := [some (.ref 42), some (.ref p1), some (.int x2), some (.int (0 : Int32)), none, none]) od_169_1 rfl rfl ?_
  refine ev_iconst (v := (0 : Int32)) od_169_2 (by decide) ?_
  refine ev_istore (lv1 := [some (.ref 42), some (.ref p1), some (.int x2), some (.int (0 : Int32)), some (.int (0 : Int32)), none]) od_169_3 rfl rfl ?_
  obtain ⟨e10, he10, h⟩ := ov_bd h
  try dsimp only at h
  refine ov_lp_S (body := (fun s => b169_5 p1 S x2 s.1 s.2)) (head := (fun s => ov_J L 1 169 5 [some (.ref 42), some (.ref p1), some (.int x2), some (.int s.1), some (.int s.2), none] [] S G P)) (exit := (fun e => ov_J L 1 169 78 [none, none, none, some (.int e), none, none] [] S G P)) (fun s r hb hk => bt169_5 hp1 hb hk) 2000 ((0 : Int32), (0 : Int32)) e10 he10 ?_
  show ov_J L 1 169 78 [none, none, none, some (.int e10), none, none] [] S G P
  refine ev_iload_n od_169_78 rfl ?_
  cases h
  exact ev_iret od_169_79 rfl hP
theorem R169 {L : Nat} {S : ov_S} {G : ov_L2} {p1 : Nat} {x2 : Int32} (hp1 : ov_A 1 p1) {out : Int32} (h : f169 p1 S x2 = some out) : ov_R L 2 169 [.ref 42, .ref p1, .int x2] S G (some (.int out)) S G :=
  ov_Rof (t169 hp1 h ⟨rfl, rfl, rfl⟩)
-- 170 OEModel.taken
def f170_38_8 (p1 : Nat) (S : ov_S) (x3 : Int32) (s0 : Int32) (s1 : Int32) : Option ((Int32 × Int32) ⊕ (Int32)) :=
  some (.inl ((s1 ||| s0), (x3 + (1 : Int32))))
theorem t170_38_8 {L : Nat} {S : ov_S} {G : ov_L2} {p1 : Nat} {x3 : Int32} {s0 : Int32} {s1 : Int32} {P : Option Value → ov_S → ov_L2 → Prop} (hp1 : ov_A 1 p1) {out : (Int32 × Int32) ⊕ (Int32)} (h : f170_38_8 p1 S x3 s0 s1 = some out) (hk : ov_sm (σ := Int32 × Int32) (ε := (Int32)) (fun s => ov_J L 1 170 8 [some (.ref 42), some (.ref p1), some (.int s.1), some (.int s.2)] [] S G P) (fun e => ov_J L 1 170 46 [none, none, some (.int e), none] [] S G P) out) : ov_J L 1 170 38 [some (.ref 42), some (.ref p1), none, some (.int x3)] [.int s0, .int s1] S G P := by
  unfold f170_38_8 at h
  refine ev_ior od_170_38 ?_
  refine ev_istore_n (lv1 := [some (.ref 42), some (.ref p1), some (.int (s1 ||| s0)), some (.int x3)]) od_170_39 rfl rfl ?_
  refine ev_iinc (v := (x3 + (1 : Int32))) (lv1 := [some (.ref 42), some (.ref p1), some (.int (s1 ||| s0)), some (.int (x3 + (1 : Int32)))]) od_170_40 rfl rfl rfl ?_
  refine ev_goto (t := 8) od_170_43 (by decide) ?_
  cases h
  exact hk
def b170_8 (p1 : Nat) (S : ov_S) (x2 : Int32) (x3 : Int32) : Option ((Int32 × Int32) ⊕ (Int32)) :=
  (if (S 42 7) ≤ x3 then some (.inr x2) else ov_ck (ov_ibb ((0 : Int32) + x3) (ov_ln p1)) ((if (S p1 (((0 : Int32) + x3)).toNatClampNeg) = (-9 : Int32) then f170_38_8 p1 S x3 (0 : Int32) x2 else ov_ck (ov_ibb ((0 : Int32) + x3) (ov_ln p1)) (f170_38_8 p1 S x3 ((1 : Int32) <<< ((S p1 (((0 : Int32) + x3)).toNatClampNeg) &&& 31)) x2))))
theorem bt170_8 {L : Nat} {S : ov_S} {G : ov_L2} {p1 : Nat} {x2 : Int32} {x3 : Int32} {P : Option Value → ov_S → ov_L2 → Prop} (hp1 : ov_A 1 p1) {out : (Int32 × Int32) ⊕ (Int32)} (h : b170_8 p1 S x2 x3 = some out) (hk : ov_sm (σ := Int32 × Int32) (ε := (Int32)) (fun s => ov_J L 1 170 8 [some (.ref 42), some (.ref p1), some (.int s.1), some (.int s.2)] [] S G P) (fun e => ov_J L 1 170 46 [none, none, some (.int e), none] [] S G P) out) : ov_J L 1 170 8 [some (.ref 42), some (.ref p1), some (.int x2), some (.int x3)] [] S G P := by
  unfold b170_8 at h
  refine ev_iload_n od_170_8 rfl ?_
  refine ev_aload_n od_170_9 rfl ?_
  refine ev_gf (v := .int (S 42 7)) og_170_10 oO_42 rfl ?_
  refine ev_icmp_ge (t := 46) od_170_13 (by decide) (fun hc5 => ?_) (fun hc5 => ?_)
  · rw [if_pos hc5] at h
    cases h
    refine ev_fg (lv0 := [none, none, some (.int x2), none]) (ov_le_n (ov_le_n (ov_le_s (ov_le_n (ov_le_e))))) ?_
    exact hk
  · rw [if_neg hc5] at h
    refine ev_iload_n od_170_16 rfl ?_
    refine ev_aload_n od_170_17 rfl ?_
    refine ev_iconst (v := (0 : Int32)) od_170_18 (by decide) ?_
    refine ev_iload_n od_170_19 rfl ?_
    refine ev_iadd od_170_20 ?_
    obtain ⟨bq2, h⟩ := ov_ck_ok h
    refine ev_iald od_170_21 hp1 (ov_ibk bq2) ?_
    refine ev_bipush (v := (-9 : Int32)) od_170_22 (by decide) ?_
    refine ev_icmp_ne (t := 31) od_170_24 (by decide) (fun hc4 => ?_) (fun hc4 => ?_)
    · rw [if_neg hc4] at h
      refine ev_iconst (v := (1 : Int32)) od_170_31 (by decide) ?_
      refine ev_aload_n od_170_32 rfl ?_
      refine ev_iconst (v := (0 : Int32)) od_170_33 (by decide) ?_
      refine ev_iload_n od_170_34 rfl ?_
      refine ev_iadd od_170_35 ?_
      obtain ⟨bq3, h⟩ := ov_ck_ok h
      refine ev_iald od_170_36 hp1 (ov_ibk bq3) ?_
      refine ev_ishl od_170_37 ?_
      refine ev_fg (lv0 := [some (.ref 42), some (.ref p1), none, some (.int x3)]) (ov_le_s (ov_le_s (ov_le_n (ov_le_s (ov_le_e))))) ?_
      exact t170_38_8 hp1 h hk
    · rw [if_pos hc4] at h
      refine ev_iconst (v := (0 : Int32)) od_170_27 (by decide) ?_
      refine ev_goto (t := 38) od_170_28 (by decide) ?_
      refine ev_fg (lv0 := [some (.ref 42), some (.ref p1), none, some (.int x3)]) (ov_le_s (ov_le_s (ov_le_n (ov_le_s (ov_le_e))))) ?_
      exact t170_38_8 hp1 h hk
def f170 (p1 : Nat) (S : ov_S) : Option (Int32) :=
  (f168 p1 S).bind fun y1 => ((ov_lp (fun s => b170_8 p1 S s.1 s.2) 2000 (y1, (0 : Int32))).bind fun e6 => some e6)
theorem t170 {L : Nat} {S : ov_S} {G : ov_L2} {p1 : Nat} {P : Option Value → ov_S → ov_L2 → Prop} (hp1 : ov_A 1 p1) {out : Int32} (h : f170 p1 S = some out) (hP : P (some (.int out)) S G) : ov_J L 1 170 0 [some (.ref 42), some (.ref p1), none, none] [] S G P := by
  unfold f170 at h
  refine ev_aload_n od_170_0 rfl ?_
  refine ev_aload_n od_170_1 rfl ?_
  obtain ⟨y1, hy1, h⟩ := ov_bd h
  try dsimp only at h
  refine ev_cvi (y := 168) (n := 1) (a := 42) (c := 8) (as := [.ref p1]) (rest := []) (dc := 1) oc_170_2 rfl rfl rfl oO_42 rfl rfl rfl rfl (by decide) (R168 hp1 hy1) ?_
  refine ev_istore_n (lv1 := [some (.ref 42), some (.ref p1), some (.int y1), none]) od_170_5 rfl rfl ?_
  refine ev_iconst (v := (0 : Int32)) od_170_6 (by decide) ?_
  refine ev_istore_n (lv1 := [some (.ref 42), some (.ref p1), some (.int y1), some (.int (0 : Int32))]) od_170_7 rfl rfl ?_
  obtain ⟨e6, he6, h⟩ := ov_bd h
  try dsimp only at h
  refine ov_lp_S (body := (fun s => b170_8 p1 S s.1 s.2)) (head := (fun s => ov_J L 1 170 8 [some (.ref 42), some (.ref p1), some (.int s.1), some (.int s.2)] [] S G P)) (exit := (fun e => ov_J L 1 170 46 [none, none, some (.int e), none] [] S G P)) (fun s r hb hk => bt170_8 hp1 hb hk) 2000 (y1, (0 : Int32)) e6 he6 ?_
  show ov_J L 1 170 46 [none, none, some (.int e6), none] [] S G P
  refine ev_iload_n od_170_46 rfl ?_
  cases h
  exact ev_iret od_170_47 rfl hP
theorem R170 {L : Nat} {S : ov_S} {G : ov_L2} {p1 : Nat} (hp1 : ov_A 1 p1) {out : Int32} (h : f170 p1 S = some out) : ov_R L 2 170 [.ref 42, .ref p1] S G (some (.int out)) S G :=
  ov_Rof (t170 hp1 h ⟨rfl, rfl, rfl⟩)
-- 172 OEModel.noDoor
def f172 (S : ov_S) (x1 : Int32) : Option (Int32) :=
  (f144 (x1).toInt64 (0 : Int64) (((S 42 4) - (1 : Int32))).toInt64).bind fun y1 => (if y1 = 0 then some (1 : Int32) else some (0 : Int32))
theorem t172 {L : Nat} {S : ov_S} {G : ov_L2} {x1 : Int32} {P : Option Value → ov_S → ov_L2 → Prop}  {out : Int32} (h : f172 S x1 = some out) (hP : P (some (.int out)) S G) : ov_J L 1 172 0 [some (.ref 42), some (.int x1)] [] S G P := by
  unfold f172 at h
  refine ev_iload_n od_172_0 rfl ?_
  refine ev_i2l od_172_1 ?_
  refine ev_lconst (v := (0 : Int64)) od_172_2 (by decide) ?_
  refine ev_aload_n od_172_3 rfl ?_
  refine ev_gf (v := .int (S 42 4)) og_172_4 oO_42 rfl ?_
  refine ev_iconst (v := (1 : Int32)) od_172_7 (by decide) ?_
  refine ev_isub od_172_8 ?_
  refine ev_i2l od_172_9 ?_
  obtain ⟨y1, hy1, h⟩ := ov_bd h
  try dsimp only at h
  refine ev_csi (y := 144) (n := 3) (as := [.long (x1).toInt64, .long (0 : Int64), .long (((S 42 4) - (1 : Int32))).toInt64]) (rest := []) (dc := 1) oc_172_10 rfl rfl rfl rfl rfl (by decide) (R144  hy1) ?_
  refine ev_if_ne (t := 20) od_172_13 (by decide) (fun hc2 => ?_) (fun hc2 => ?_)
  · rw [if_neg hc2] at h
    refine ev_iconst (v := (0 : Int32)) od_172_20 (by decide) ?_
    cases h
    exact ev_zret od_172_21 rfl (by decide) hP
  · rw [if_pos hc2] at h
    refine ev_iconst (v := (1 : Int32)) od_172_16 (by decide) ?_
    refine ev_goto (t := 21) od_172_17 (by decide) ?_
    cases h
    exact ev_zret od_172_21 rfl (by decide) hP
theorem R172 {L : Nat} {S : ov_S} {G : ov_L2} {x1 : Int32}  {out : Int32} (h : f172 S x1 = some out) : ov_R L 2 172 [.ref 42, .int x1] S G (some (.int out)) S G :=
  ov_Rof (t172  h ⟨rfl, rfl, rfl⟩)
-- 173 OEModel.stool
def f173 (S : ov_S) (x1 : Int32) : Option (Int32 × ov_S) :=
  (f144 (x1).toInt64 (0 : Int64) ((((ov_up S 42 0 (0 : Int32)) 42 6) - (1 : Int32))).toInt64).bind fun y1 => (if y1 = 0 then some ((-1 : Int32), (ov_up S 42 0 (0 : Int32))) else ov_ck (ov_ibb ((7 : Int32) + x1) 12) (some (((ov_up S 42 0 (0 : Int32)) 55 (((7 : Int32) + x1)).toNatClampNeg), (ov_up S 42 0 (0 : Int32)))))
theorem t173 {L : Nat} {S : ov_S} {G : ov_L2} {x1 : Int32} {P : Option Value → ov_S → ov_L2 → Prop}  {out : Int32 × ov_S} (h : f173 S x1 = some out) (hP : P (some (.int out.1)) out.2 G) : ov_J L 1 173 0 [some (.ref 42), some (.int x1)] [] S G P := by
  unfold f173 at h
  refine ev_aload_n od_173_0 rfl ?_
  refine ev_iconst (v := (0 : Int32)) od_173_1 (by decide) ?_
  refine ev_pf op_173_2 oO_42 rfl rfl ?_
  refine ev_iload_n od_173_5 rfl ?_
  refine ev_i2l od_173_6 ?_
  refine ev_lconst (v := (0 : Int64)) od_173_7 (by decide) ?_
  refine ev_aload_n od_173_8 rfl ?_
  refine ev_gf (v := .int ((ov_up S 42 0 (0 : Int32)) 42 6)) og_173_9 oO_42 rfl ?_
  refine ev_iconst (v := (1 : Int32)) od_173_12 (by decide) ?_
  refine ev_isub od_173_13 ?_
  refine ev_i2l od_173_14 ?_
  obtain ⟨y1, hy1, h⟩ := ov_bd h
  try dsimp only at h
  refine ev_csi (y := 144) (n := 3) (as := [.long (x1).toInt64, .long (0 : Int64), .long ((((ov_up S 42 0 (0 : Int32)) 42 6) - (1 : Int32))).toInt64]) (rest := []) (dc := 1) oc_173_15 rfl rfl rfl rfl rfl (by decide) (R144  hy1) ?_
  refine ev_if_eq (t := 33) od_173_18 (by decide) (fun hc3 => ?_) (fun hc3 => ?_)
  · rw [if_pos hc3] at h
    refine ev_iconst (v := (-1 : Int32)) od_173_33 (by decide) ?_
    cases h
    exact ev_iret od_173_34 rfl hP
  · rw [if_neg hc3] at h
    refine ev_aload_n od_173_21 rfl ?_
    refine ev_gf (v := .ref 55) og_173_22 oO_42 rfl ?_
    refine ev_bipush (v := (7 : Int32)) od_173_25 (by decide) ?_
    refine ev_iload_n od_173_27 rfl ?_
    refine ev_iadd od_173_28 ?_
    obtain ⟨bq2, h⟩ := ov_ck_ok h
    refine ev_iald od_173_29 oA_55 (ov_ibk bq2) ?_
    refine ev_goto (t := 34) od_173_30 (by decide) ?_
    cases h
    exact ev_iret od_173_34 rfl hP
theorem R173 {L : Nat} {S : ov_S} {G : ov_L2} {x1 : Int32}  {out : Int32 × ov_S} (h : f173 S x1 = some out) : ov_R L 2 173 [.ref 42, .int x1] S G (some (.int out.1)) out.2 G :=
  ov_Rof (t173  h ⟨rfl, rfl, rfl⟩)
-- 175 OEModel.noPart
def f175 (S : ov_S) (x1 : Int32) : Option (Int32) :=
  (f144 (x1).toInt64 (0 : Int64) (((S 42 7) - (1 : Int32))).toInt64).bind fun y1 => (if y1 = 0 then some (1 : Int32) else some (0 : Int32))
theorem t175 {L : Nat} {S : ov_S} {G : ov_L2} {x1 : Int32} {P : Option Value → ov_S → ov_L2 → Prop}  {out : Int32} (h : f175 S x1 = some out) (hP : P (some (.int out)) S G) : ov_J L 1 175 0 [some (.ref 42), some (.int x1)] [] S G P := by
  unfold f175 at h
  refine ev_iload_n od_175_0 rfl ?_
  refine ev_i2l od_175_1 ?_
  refine ev_lconst (v := (0 : Int64)) od_175_2 (by decide) ?_
  refine ev_aload_n od_175_3 rfl ?_
  refine ev_gf (v := .int (S 42 7)) og_175_4 oO_42 rfl ?_
  refine ev_iconst (v := (1 : Int32)) od_175_7 (by decide) ?_
  refine ev_isub od_175_8 ?_
  refine ev_i2l od_175_9 ?_
  obtain ⟨y1, hy1, h⟩ := ov_bd h
  try dsimp only at h
  refine ev_csi (y := 144) (n := 3) (as := [.long (x1).toInt64, .long (0 : Int64), .long (((S 42 7) - (1 : Int32))).toInt64]) (rest := []) (dc := 1) oc_175_10 rfl rfl rfl rfl rfl (by decide) (R144  hy1) ?_
  refine ev_if_ne (t := 20) od_175_13 (by decide) (fun hc2 => ?_) (fun hc2 => ?_)
  · rw [if_neg hc2] at h
    refine ev_iconst (v := (0 : Int32)) od_175_20 (by decide) ?_
    cases h
    exact ev_zret od_175_21 rfl (by decide) hP
  · rw [if_pos hc2] at h
    refine ev_iconst (v := (1 : Int32)) od_175_16 (by decide) ?_
    refine ev_goto (t := 21) od_175_17 (by decide) ?_
    cases h
    exact ev_zret od_175_21 rfl (by decide) hP
theorem R175 {L : Nat} {S : ov_S} {G : ov_L2} {x1 : Int32}  {out : Int32} (h : f175 S x1 = some out) : ov_R L 2 175 [.ref 42, .int x1] S G (some (.int out)) S G :=
  ov_Rof (t175  h ⟨rfl, rfl, rfl⟩)
-- 179 OEModel.layFar
def b179_2 (x1 : Int32) (x2 : Int32) (x3 : Int32) (S : ov_S) : Option ((Int32 × ov_S) ⊕ (ov_S)) :=
  (if (18 : Int32) ≤ x3 then some (.inr S) else ov_ck (ov_ibb x3 18) (some (.inl ((x3 + (1 : Int32)), (ov_up S 63 (x3).toNatClampNeg (-9 : Int32))))))
theorem bt179_2 {L : Nat} {S : ov_S} {G : ov_L2} {x1 : Int32} {x2 : Int32} {x3 : Int32} {P : Option Value → ov_S → ov_L2 → Prop}  {out : (Int32 × ov_S) ⊕ (ov_S)} (h : b179_2 x1 x2 x3 S = some out) (hk : ov_sm (σ := Int32 × ov_S) (ε := (ov_S)) (fun s => ov_J L 1 179 2 [some (.ref 42), some (.int x1), some (.int x2), some (.int s.1), none, none, none] [] s.2 G P) (fun e => ov_J L 1 179 22 [some (.ref 42), some (.int x1), some (.int x2), none, none, none, none] [] e G P) out) : ov_J L 1 179 2 [some (.ref 42), some (.int x1), some (.int x2), some (.int x3), none, none, none] [] S G P := by
  unfold b179_2 at h
  refine ev_iload_n od_179_2 rfl ?_
  refine ev_bipush (v := (18 : Int32)) od_179_3 (by decide) ?_
  refine ev_icmp_ge (t := 22) od_179_5 (by decide) (fun hc2 => ?_) (fun hc2 => ?_)
  · rw [if_pos hc2] at h
    cases h
    refine ev_fg (lv0 := [some (.ref 42), some (.int x1), some (.int x2), none, none, none, none]) (ov_le_s (ov_le_s (ov_le_s (ov_le_n (ov_le_n (ov_le_n (ov_le_n (ov_le_e)))))))) ?_
    exact hk
  · rw [if_neg hc2] at h
    refine ev_aload_n od_179_8 rfl ?_
    refine ev_gf (v := .ref 63) og_179_9 oO_42 rfl ?_
    refine ev_iload_n od_179_12 rfl ?_
    refine ev_bipush (v := (-9 : Int32)) od_179_13 (by decide) ?_
    obtain ⟨bq1, h⟩ := ov_ck_ok h
    refine ev_iast od_179_15 oA_63 (ov_ibk bq1) ?_
    refine ev_iinc (v := (x3 + (1 : Int32))) (lv1 := [some (.ref 42), some (.int x1), some (.int x2), some (.int (x3 + (1 : Int32))), none, none, none]) od_179_16 rfl rfl rfl ?_
    refine ev_goto (t := 2) od_179_19 (by decide) ?_
    cases h
    exact hk
def f179_114_50 (S : ov_S) (x2 : Int32) (x3 : Int32) (x4 : Int32) (x5 : Int32) : Option ((Int32 × ov_S) ⊕ (ov_S)) :=
  some (.inl ((x5 + (1 : Int32)), S))
theorem t179_114_50 {L : Nat} {S : ov_S} {G : ov_L2} {x2 : Int32} {x3 : Int32} {x4 : Int32} {x5 : Int32} {P : Option Value → ov_S → ov_L2 → Prop}  {out : (Int32 × ov_S) ⊕ (ov_S)} (h : f179_114_50 S x2 x3 x4 x5 = some out) (hk : ov_sm (σ := Int32 × ov_S) (ε := (ov_S)) (fun s => ov_J L 1 179 50 [some (.ref 42), none, some (.int x2), some (.int x3), some (.int x4), some (.int s.1), none] [] s.2 G P) (fun e => ov_J L 1 179 120 [some (.ref 42), none, some (.int x2), some (.int x3), some (.int x4), none, none] [] e G P) out) : ov_J L 1 179 114 [some (.ref 42), none, some (.int x2), some (.int x3), some (.int x4), some (.int x5), none] [] S G P := by
  unfold f179_114_50 at h
  refine ev_iinc (v := (x5 + (1 : Int32))) (lv1 := [some (.ref 42), none, some (.int x2), some (.int x3), some (.int x4), some (.int (x5 + (1 : Int32))), none]) od_179_114 rfl rfl rfl ?_
  refine ev_goto (t := 50) od_179_117 (by decide) ?_
  cases h
  exact hk
def b179_50 (x2 : Int32) (x3 : Int32) (x4 : Int32) (x5 : Int32) (S : ov_S) : Option ((Int32 × ov_S) ⊕ (ov_S)) :=
  (if (4 : Int32) ≤ x5 then some (.inr S) else ov_ck (ov_ibb x4 18) ((if (S 63 (x4).toNatClampNeg) = x3 then (f180 x4 x5).bind fun y6 => (if y6 = (-9 : Int32) then f179_114_50 S x2 x3 x4 x5 else ov_ck (ov_ibb y6 18) ((if (S 63 (y6).toNatClampNeg) = (-9 : Int32) then (f152 x2 y6).bind fun y8 => (if y8 = 0 then ov_ck (ov_ibb y6 18) (f179_114_50 (ov_up S 63 (y6).toNatClampNeg (x3 + (1 : Int32))) x2 x3 x4 x5) else f179_114_50 S x2 x3 x4 x5) else f179_114_50 S x2 x3 x4 x5))) else some (.inr S))))
theorem bt179_50 {L : Nat} {S : ov_S} {G : ov_L2} {x2 : Int32} {x3 : Int32} {x4 : Int32} {x5 : Int32} {P : Option Value → ov_S → ov_L2 → Prop}  {out : (Int32 × ov_S) ⊕ (ov_S)} (h : b179_50 x2 x3 x4 x5 S = some out) (hk : ov_sm (σ := Int32 × ov_S) (ε := (ov_S)) (fun s => ov_J L 1 179 50 [some (.ref 42), none, some (.int x2), some (.int x3), some (.int x4), some (.int s.1), none] [] s.2 G P) (fun e => ov_J L 1 179 120 [some (.ref 42), none, some (.int x2), some (.int x3), some (.int x4), none, none] [] e G P) out) : ov_J L 1 179 50 [some (.ref 42), none, some (.int x2), some (.int x3), some (.int x4), some (.int x5), none] [] S G P := by
  unfold b179_50 at h
  refine ev_iload od_179_50 rfl ?_
  refine ev_iconst (v := (4 : Int32)) od_179_52 (by decide) ?_
  refine ev_icmp_ge (t := 120) od_179_53 (by decide) (fun hc14 => ?_) (fun hc14 => ?_)
  · rw [if_pos hc14] at h
    cases h
    refine ev_fg (lv0 := [some (.ref 42), none, some (.int x2), some (.int x3), some (.int x4), none, none]) (ov_le_s (ov_le_n (ov_le_s (ov_le_s (ov_le_s (ov_le_n (ov_le_n (ov_le_e)))))))) ?_
    exact hk
  · rw [if_neg hc14] at h
    refine ev_aload_n od_179_56 rfl ?_
    refine ev_gf (v := .ref 63) og_179_57 oO_42 rfl ?_
    refine ev_iload od_179_60 rfl ?_
    obtain ⟨bq5, h⟩ := ov_ck_ok h
    refine ev_iald od_179_62 oA_63 (ov_ibk bq5) ?_
    refine ev_iload_n od_179_63 rfl ?_
    refine ev_icmp_ne (t := 120) od_179_64 (by decide) (fun hc13 => ?_) (fun hc13 => ?_)
    · rw [if_neg hc13] at h
      cases h
      refine ev_fg (lv0 := [some (.ref 42), none, some (.int x2), some (.int x3), some (.int x4), none, none]) (ov_le_s (ov_le_n (ov_le_s (ov_le_s (ov_le_s (ov_le_n (ov_le_n (ov_le_e)))))))) ?_
      exact hk
    · rw [if_pos hc13] at h
      refine ev_iload od_179_67 rfl ?_
      refine ev_iload od_179_69 rfl ?_
      obtain ⟨y6, hy6, h⟩ := ov_bd h
      try dsimp only at h
      refine ev_csi (y := 180) (n := 2) (as := [.int x4, .int x5]) (rest := []) (dc := 1) oc_179_71 rfl rfl rfl rfl rfl (by decide) (R180  hy6) ?_
      refine ev_istore (lv1 := [some (.ref 42), none, some (.int x2), some (.int x3), some (.int x4), some (.int x5), some (.int y6)]) od_179_74 rfl rfl ?_
      refine ev_iload od_179_76 rfl ?_
      refine ev_bipush (v := (-9 : Int32)) od_179_78 (by decide) ?_
      refine ev_icmp_eq (t := 114) od_179_80 (by decide) (fun hc12 => ?_) (fun hc12 => ?_)
      · rw [if_pos hc12] at h
        refine ev_fg (lv0 := [some (.ref 42), none, some (.int x2), some (.int x3), some (.int x4), some (.int x5), none]) (ov_le_s (ov_le_n (ov_le_s (ov_le_s (ov_le_s (ov_le_s (ov_le_n (ov_le_e)))))))) ?_
        exact t179_114_50  h hk
      · rw [if_neg hc12] at h
        refine ev_aload_n od_179_83 rfl ?_
        refine ev_gf (v := .ref 63) og_179_84 oO_42 rfl ?_
        refine ev_iload od_179_87 rfl ?_
        obtain ⟨bq7, h⟩ := ov_ck_ok h
        refine ev_iald od_179_89 oA_63 (ov_ibk bq7) ?_
        refine ev_bipush (v := (-9 : Int32)) od_179_90 (by decide) ?_
        refine ev_icmp_ne (t := 114) od_179_92 (by decide) (fun hc11 => ?_) (fun hc11 => ?_)
        · rw [if_neg hc11] at h
          refine ev_fg (lv0 := [some (.ref 42), none, some (.int x2), some (.int x3), some (.int x4), some (.int x5), none]) (ov_le_s (ov_le_n (ov_le_s (ov_le_s (ov_le_s (ov_le_s (ov_le_n (ov_le_e)))))))) ?_
          exact t179_114_50  h hk
        · rw [if_pos hc11] at h
          refine ev_iload_n od_179_95 rfl ?_
          refine ev_iload od_179_96 rfl ?_
          obtain ⟨y8, hy8, h⟩ := ov_bd h
          try dsimp only at h
          refine ev_csi (y := 152) (n := 2) (as := [.int x2, .int y6]) (rest := []) (dc := 1) oc_179_98 rfl rfl rfl rfl rfl (by decide) (R152  hy8) ?_
          refine ev_if_ne (t := 114) od_179_101 (by decide) (fun hc10 => ?_) (fun hc10 => ?_)
          · rw [if_neg hc10] at h
            refine ev_fg (lv0 := [some (.ref 42), none, some (.int x2), some (.int x3), some (.int x4), some (.int x5), none]) (ov_le_s (ov_le_n (ov_le_s (ov_le_s (ov_le_s (ov_le_s (ov_le_n (ov_le_e)))))))) ?_
            exact t179_114_50  h hk
          · rw [if_pos hc10] at h
            refine ev_aload_n od_179_104 rfl ?_
            refine ev_gf (v := .ref 63) og_179_105 oO_42 rfl ?_
            refine ev_iload od_179_108 rfl ?_
            refine ev_iload_n od_179_110 rfl ?_
            refine ev_iconst (v := (1 : Int32)) od_179_111 (by decide) ?_
            refine ev_iadd od_179_112 ?_
            obtain ⟨bq9, h⟩ := ov_ck_ok h
            refine ev_iast od_179_113 oA_63 (ov_ibk bq9) ?_
            refine ev_fg (lv0 := [some (.ref 42), none, some (.int x2), some (.int x3), some (.int x4), some (.int x5), none]) (ov_le_s (ov_le_n (ov_le_s (ov_le_s (ov_le_s (ov_le_s (ov_le_n (ov_le_e)))))))) ?_
            exact t179_114_50  h hk
def f179_120_40 (S : ov_S) (x2 : Int32) (x3 : Int32) (x4 : Int32) : Option ((Int32 × ov_S) ⊕ (ov_S)) :=
  some (.inl ((x4 + (1 : Int32)), S))
theorem t179_120_40 {L : Nat} {S : ov_S} {G : ov_L2} {x2 : Int32} {x3 : Int32} {x4 : Int32} {P : Option Value → ov_S → ov_L2 → Prop}  {out : (Int32 × ov_S) ⊕ (ov_S)} (h : f179_120_40 S x2 x3 x4 = some out) (hk : ov_sm (σ := Int32 × ov_S) (ε := (ov_S)) (fun s => ov_J L 1 179 40 [some (.ref 42), none, some (.int x2), some (.int x3), some (.int s.1), none, none] [] s.2 G P) (fun e => ov_J L 1 179 126 [some (.ref 42), none, some (.int x2), some (.int x3), none, none, none] [] e G P) out) : ov_J L 1 179 120 [some (.ref 42), none, some (.int x2), some (.int x3), some (.int x4), none, none] [] S G P := by
  unfold f179_120_40 at h
  refine ev_iinc (v := (x4 + (1 : Int32))) (lv1 := [some (.ref 42), none, some (.int x2), some (.int x3), some (.int (x4 + (1 : Int32))), none, none]) od_179_120 rfl rfl rfl ?_
  refine ev_goto (t := 40) od_179_123 (by decide) ?_
  cases h
  exact hk
def b179_40 (x2 : Int32) (x3 : Int32) (x4 : Int32) (S : ov_S) : Option ((Int32 × ov_S) ⊕ (ov_S)) :=
  (if (18 : Int32) ≤ x4 then some (.inr S) else ((ov_lp (fun s => b179_50 x2 x3 x4 s.1 s.2) 2000 ((0 : Int32), S)).bind fun e15 => f179_120_40 e15 x2 x3 x4))
theorem bt179_40 {L : Nat} {S : ov_S} {G : ov_L2} {x2 : Int32} {x3 : Int32} {x4 : Int32} {P : Option Value → ov_S → ov_L2 → Prop}  {out : (Int32 × ov_S) ⊕ (ov_S)} (h : b179_40 x2 x3 x4 S = some out) (hk : ov_sm (σ := Int32 × ov_S) (ε := (ov_S)) (fun s => ov_J L 1 179 40 [some (.ref 42), none, some (.int x2), some (.int x3), some (.int s.1), none, none] [] s.2 G P) (fun e => ov_J L 1 179 126 [some (.ref 42), none, some (.int x2), some (.int x3), none, none, none] [] e G P) out) : ov_J L 1 179 40 [some (.ref 42), none, some (.int x2), some (.int x3), some (.int x4), none, none] [] S G P := by
  unfold b179_40 at h
  refine ev_iload od_179_40 rfl ?_
  refine ev_bipush (v := (18 : Int32)) od_179_42 (by decide) ?_
  refine ev_icmp_ge (t := 126) od_179_44 (by decide) (fun hc16 => ?_) (fun hc16 => ?_)
  · rw [if_pos hc16] at h
    cases h
    refine ev_fg (lv0 := [some (.ref 42), none, some (.int x2), some (.int x3), none, none, none]) (ov_le_s (ov_le_n (ov_le_s (ov_le_s (ov_le_n (ov_le_n (ov_le_n (ov_le_e)))))))) ?_
    exact hk
  · rw [if_neg hc16] at h
    refine ev_iconst (v := (0 : Int32)) od_179_47 (by decide) ?_
    refine ev_istore (lv1 := [some (.ref 42), none, some (.int x2), some (.int x3), some (.int x4), some (.int (0 : Int32)), none]) od_179_48 rfl rfl ?_
    obtain ⟨e15, he15, h⟩ := ov_bd h
    try dsimp only at h
    refine ov_lp_S (body := (fun s => b179_50 x2 x3 x4 s.1 s.2)) (head := (fun s => ov_J L 1 179 50 [some (.ref 42), none, some (.int x2), some (.int x3), some (.int x4), some (.int s.1), none] [] s.2 G P)) (exit := (fun e => ov_J L 1 179 120 [some (.ref 42), none, some (.int x2), some (.int x3), some (.int x4), none, none] [] e G P)) (fun s r hb hk => bt179_50  hb hk) 2000 ((0 : Int32), S) e15 he15 ?_
    show ov_J L 1 179 120 [some (.ref 42), none, some (.int x2), some (.int x3), some (.int x4), none, none] [] e15 G P
    exact t179_120_40  h hk
def b179_31 (x2 : Int32) (x3 : Int32) (S : ov_S) : Option ((Int32 × ov_S) ⊕ (ov_S)) :=
  (if (18 : Int32) ≤ x3 then some (.inr S) else ((ov_lp (fun s => b179_40 x2 x3 s.1 s.2) 2000 ((0 : Int32), S)).bind fun e17 => some (.inl ((x3 + (1 : Int32)), e17))))
theorem bt179_31 {L : Nat} {S : ov_S} {G : ov_L2} {x2 : Int32} {x3 : Int32} {P : Option Value → ov_S → ov_L2 → Prop}  {out : (Int32 × ov_S) ⊕ (ov_S)} (h : b179_31 x2 x3 S = some out) (hk : ov_sm (σ := Int32 × ov_S) (ε := (ov_S)) (fun s => ov_J L 1 179 31 [some (.ref 42), none, some (.int x2), some (.int s.1), none, none, none] [] s.2 G P) (fun e => ov_J L 1 179 132 [none, none, none, none, none, none, none] [] e G P) out) : ov_J L 1 179 31 [some (.ref 42), none, some (.int x2), some (.int x3), none, none, none] [] S G P := by
  unfold b179_31 at h
  refine ev_iload_n od_179_31 rfl ?_
  refine ev_bipush (v := (18 : Int32)) od_179_32 (by decide) ?_
  refine ev_icmp_ge (t := 132) od_179_34 (by decide) (fun hc18 => ?_) (fun hc18 => ?_)
  · rw [if_pos hc18] at h
    cases h
    refine ev_fg (lv0 := [none, none, none, none, none, none, none]) (ov_le_n (ov_le_n (ov_le_n (ov_le_n (ov_le_n (ov_le_n (ov_le_n (ov_le_e)))))))) ?_
    exact hk
  · rw [if_neg hc18] at h
    refine ev_iconst (v := (0 : Int32)) od_179_37 (by decide) ?_
    refine ev_istore (lv1 := [some (.ref 42), none, some (.int x2), some (.int x3), some (.int (0 : Int32)), none, none]) od_179_38 rfl rfl ?_
    obtain ⟨e17, he17, h⟩ := ov_bd h
    try dsimp only at h
    refine ov_lp_S (body := (fun s => b179_40 x2 x3 s.1 s.2)) (head := (fun s => ov_J L 1 179 40 [some (.ref 42), none, some (.int x2), some (.int x3), some (.int s.1), none, none] [] s.2 G P)) (exit := (fun e => ov_J L 1 179 126 [some (.ref 42), none, some (.int x2), some (.int x3), none, none, none] [] e G P)) (fun s r hb hk => bt179_40  hb hk) 2000 ((0 : Int32), S) e17 he17 ?_
    show ov_J L 1 179 126 [some (.ref 42), none, some (.int x2), some (.int x3), none, none, none] [] e17 G P
    refine ev_iinc (v := (x3 + (1 : Int32))) (lv1 := [some (.ref 42), none, some (.int x2), some (.int (x3 + (1 : Int32))), none, none, none]) od_179_126 rfl rfl rfl ?_
    refine ev_goto (t := 31) od_179_129 (by decide) ?_
    cases h
    exact hk
def f179 (S : ov_S) (x1 : Int32) (x2 : Int32) : Option (ov_S) :=
  ((ov_lp (fun s => b179_2 x1 x2 s.1 s.2) 2000 ((0 : Int32), S)).bind fun e3 => ov_ck (ov_ibb x1 18) (((ov_lp (fun s => b179_31 x2 s.1 s.2) 2000 ((0 : Int32), (ov_up e3 63 (x1).toNatClampNeg (0 : Int32)))).bind fun e19 => some e19)))
theorem t179 {L : Nat} {S : ov_S} {G : ov_L2} {x1 : Int32} {x2 : Int32} {P : Option Value → ov_S → ov_L2 → Prop}  {out : ov_S} (h : f179 S x1 x2 = some out) (hP : P none out G) : ov_J L 1 179 0 [some (.ref 42), some (.int x1), some (.int x2), none, none, none, none] [] S G P := by
  unfold f179 at h
  refine ev_iconst (v := (0 : Int32)) od_179_0 (by decide) ?_
  refine ev_istore_n (lv1 := [some (.ref 42), some (.int x1), some (.int x2), some (.int (0 : Int32)), none, none, none]) od_179_1 rfl rfl ?_
  obtain ⟨e3, he3, h⟩ := ov_bd h
  try dsimp only at h
  refine ov_lp_S (body := (fun s => b179_2 x1 x2 s.1 s.2)) (head := (fun s => ov_J L 1 179 2 [some (.ref 42), some (.int x1), some (.int x2), some (.int s.1), none, none, none] [] s.2 G P)) (exit := (fun e => ov_J L 1 179 22 [some (.ref 42), some (.int x1), some (.int x2), none, none, none, none] [] e G P)) (fun s r hb hk => bt179_2  hb hk) 2000 ((0 : Int32), S) e3 he3 ?_
  show ov_J L 1 179 22 [some (.ref 42), some (.int x1), some (.int x2), none, none, none, none] [] e3 G P
  refine ev_aload_n od_179_22 rfl ?_
  refine ev_gf (v := .ref 63) og_179_23 oO_42 rfl ?_
  refine ev_iload_n od_179_26 rfl ?_
  refine ev_iconst (v := (0 : Int32)) od_179_27 (by decide) ?_
  obtain ⟨bq4, h⟩ := ov_ck_ok h
  refine ev_iast od_179_28 oA_63 (ov_ibk bq4) ?_
  refine ev_iconst (v := (0 : Int32)) od_179_29 (by decide) ?_
  refine ev_istore_n (lv1 := [some (.ref 42), some (.int x1), some (.int x2), some (.int (0 : Int32)), none, none, none]) od_179_30 rfl rfl ?_
  obtain ⟨e19, he19, h⟩ := ov_bd h
  try dsimp only at h
  refine ev_fg (lv0 := [some (.ref 42), none, some (.int x2), some (.int (0 : Int32)), none, none, none]) (ov_le_s (ov_le_n (ov_le_s (ov_le_s (ov_le_n (ov_le_n (ov_le_n (ov_le_e)))))))) ?_
  refine ov_lp_S (body := (fun s => b179_31 x2 s.1 s.2)) (head := (fun s => ov_J L 1 179 31 [some (.ref 42), none, some (.int x2), some (.int s.1), none, none, none] [] s.2 G P)) (exit := (fun e => ov_J L 1 179 132 [none, none, none, none, none, none, none] [] e G P)) (fun s r hb hk => bt179_31  hb hk) 2000 ((0 : Int32), (ov_up e3 63 (x1).toNatClampNeg (0 : Int32))) e19 he19 ?_
  show ov_J L 1 179 132 [none, none, none, none, none, none, none] [] e19 G P
  cases h
  exact ev_vret od_179_132 rfl hP
theorem R179 {L : Nat} {S : ov_S} {G : ov_L2} {x1 : Int32} {x2 : Int32}  {out : ov_S} (h : f179 S x1 x2 = some out) : ov_R L 2 179 [.ref 42, .int x1, .int x2] S G none out G :=
  ov_Rof (t179  h ⟨rfl, rfl, rfl⟩)
