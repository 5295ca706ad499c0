-- 128 OE$Trod.allFrom
def b128_2 (S : ov_S) (x1 : Int32) (x2 : Int32) (x3 : Int32) : Option ((Int32) ⊕ ((Unit) ⊕ (Int32))) :=
  (if (S 28 2) ≤ x3 then some (.inr (.inl ())) else ov_ck (ov_ibb x3 6) ((f94 x1 (S 29 (x3).toNatClampNeg) x2).bind fun y2 => ov_ck (ov_ibb x3 6) ((if y2 = (S 30 (x3).toNatClampNeg) then some (.inl (x3 + (1 : Int32))) else some (.inr (.inr (0 : Int32)))))))
theorem bt128_2 {L : Nat} {S : ov_S} {G : ov_L2} {x1 : Int32} {x2 : Int32} {x3 : Int32} {P : Option Value → ov_S → ov_L2 → Prop}  {out : (Int32) ⊕ ((Unit) ⊕ (Int32))} (h : b128_2 S x1 x2 x3 = some out) (hk : ov_sm (σ := Int32) (ε := ((Unit) ⊕ (Int32))) (fun s => ov_J L 2 128 2 [some (.ref 28), some (.int x1), some (.int x2), some (.int s)] [] S G P) (ov_sm (fun e => ov_J L 2 128 38 [none, none, none, none] [] S G P) (fun t => P (some (.int t)) S G)) out) : ov_J L 2 128 2 [some (.ref 28), some (.int x1), some (.int x2), some (.int x3)] [] S G P := by
  unfold b128_2 at h
  refine ev_iload_n od_128_2 rfl ?_
  refine ev_aload_n od_128_3 rfl ?_
  refine ev_gf (v := .int (S 28 2)) og_128_4 oO_28 rfl ?_
  refine ev_icmp_ge (t := 38) od_128_7 (by decide) (fun hc5 => ?_) (fun hc5 => ?_)
  · rw [if_pos hc5] at h
    cases h
    refine ev_fg (lv0 := [none, none, none, none]) (ov_le_n (ov_le_n (ov_le_n (ov_le_n (ov_le_e))))) ?_
    exact hk
  · rw [if_neg hc5] at h
    refine ev_iload_n od_128_10 rfl ?_
    refine ev_aload_n od_128_11 rfl ?_
    refine ev_gf (v := .ref 29) og_128_12 oO_28 rfl ?_
    refine ev_iload_n od_128_15 rfl ?_
    obtain ⟨bq1, h⟩ := ov_ck_ok h
    refine ev_iald od_128_16 oA_29 (ov_ibk bq1) ?_
    refine ev_iload_n od_128_17 rfl ?_
    obtain ⟨y2, hy2, h⟩ := ov_bd h
    try dsimp only at h
    refine ev_csi (y := 94) (n := 3) (as := [.int x1, .int (S 29 (x3).toNatClampNeg), .int x2]) (rest := []) (dc := 2) oc_128_18 rfl rfl rfl rfl rfl (by decide) (R94  hy2) ?_
    refine ev_aload_n od_128_21 rfl ?_
    refine ev_gf (v := .ref 30) og_128_22 oO_28 rfl ?_
    refine ev_iload_n od_128_25 rfl ?_
    obtain ⟨bq3, h⟩ := ov_ck_ok h
    refine ev_iald od_128_26 oA_30 (ov_ibk bq3) ?_
    refine ev_icmp_eq (t := 32) od_128_27 (by decide) (fun hc4 => ?_) (fun hc4 => ?_)
    · rw [if_pos hc4] at h
      refine ev_iinc (v := (x3 + (1 : Int32))) (lv1 := [some (.ref 28), some (.int x1), some (.int x2), some (.int (x3 + (1 : Int32)))]) od_128_32 rfl rfl rfl ?_
      refine ev_goto (t := 2) od_128_35 (by decide) ?_
      cases h
      exact hk
    · rw [if_neg hc4] at h
      refine ev_iconst (v := (0 : Int32)) od_128_30 (by decide) ?_
      cases h
      exact ev_zret od_128_31 rfl (by decide) hk
def f128 (S : ov_S) (x1 : Int32) (x2 : Int32) : Option (Int32) :=
  ((ov_lp (fun s => b128_2 S x1 x2 s) 2000 (0 : Int32)).bind fun e6 => match e6 with | .inl e7 => some (1 : Int32) | .inr t => some t)
theorem t128 {L : Nat} {S : ov_S} {G : ov_L2} {x1 : Int32} {x2 : Int32} {P : Option Value → ov_S → ov_L2 → Prop}  {out : Int32} (h : f128 S x1 x2 = some out) (hP : P (some (.int out)) S G) : ov_J L 2 128 0 [some (.ref 28), some (.int x1), some (.int x2), none] [] S G P := by
  unfold f128 at h
  refine ev_iconst (v := (0 : Int32)) od_128_0 (by decide) ?_
  refine ev_istore_n (lv1 := [some (.ref 28), some (.int x1), some (.int x2), some (.int (0 : Int32))]) od_128_1 rfl rfl ?_
  obtain ⟨e6, he6, h⟩ := ov_bd h
  try dsimp only at h
  refine ov_lp_S (body := (fun s => b128_2 S x1 x2 s)) (head := (fun s => ov_J L 2 128 2 [some (.ref 28), some (.int x1), some (.int x2), some (.int s)] [] S G P)) (exit := (ov_sm (fun e => ov_J L 2 128 38 [none, none, none, none] [] S G P) (fun t => P (some (.int t)) S G))) (fun s r hb hk => bt128_2  hb hk) 2000 (0 : Int32) e6 he6 ?_
  rcases e6 with e7 | t
  · try dsimp only at h
    show ov_J L 2 128 38 [none, none, none, none] [] S G P
    refine ev_iconst (v := (1 : Int32)) od_128_38 (by decide) ?_
    cases h
    exact ev_zret od_128_39 rfl (by decide) hP
  · cases h
    exact hP
theorem R128 {L : Nat} {S : ov_S} {G : ov_L2} {x1 : Int32} {x2 : Int32}  {out : Int32} (h : f128 S x1 x2 = some out) : ov_R L 3 128 [.ref 28, .int x1, .int x2] S G (some (.int out)) S G :=
  ov_Rof (t128  h ⟨rfl, rfl, rfl⟩)
-- 150 OEModel.readDoorPart
def f150_33 (S : ov_S) (x1 : Int32) : Option (Int32 × ov_S) :=
  (if x1 = (-9 : Int32) then some ((0 : Int32), S) else some ((1 : Int32), S))
theorem t150_33 {L : Nat} {S : ov_S} {G : ov_L2} {x1 : Int32} {P : Option Value → ov_S → ov_L2 → Prop}  {out : Int32 × ov_S} (h : f150_33 S x1 = some out) (hP : P (some (.int out.1)) out.2 G) : ov_J L 2 150 33 [none, some (.int x1)] [] S G P := by
  unfold f150_33 at h
  refine ev_iload_n od_150_33 rfl ?_
  refine ev_bipush (v := (-9 : Int32)) od_150_34 (by decide) ?_
  refine ev_icmp_eq (t := 43) od_150_36 (by decide) (fun hc2 => ?_) (fun hc2 => ?_)
  · rw [if_pos hc2] at h
    refine ev_iconst (v := (0 : Int32)) od_150_43 (by decide) ?_
    cases h
    exact ev_zret od_150_44 rfl (by decide) hP
  · rw [if_neg hc2] at h
    refine ev_iconst (v := (1 : Int32)) od_150_39 (by decide) ?_
    refine ev_goto (t := 44) od_150_40 (by decide) ?_
    cases h
    exact ev_zret od_150_44 rfl (by decide) hP
def f150 (S : ov_S) : Option (Int32 × ov_S) :=
  (f151 S (12 : Int32)).bind fun y1 => (if y1.1 = (-9 : Int32) then f150_33 y1.2 y1.1 else ov_ck (ov_ibb (y1.2 42 13) 3) (f150_33 (ov_up (ov_up y1.2 49 ((y1.2 42 13)).toNatClampNeg y1.1) 42 13 (((ov_up y1.2 49 ((y1.2 42 13)).toNatClampNeg y1.1) 42 13) + (1 : Int32))) y1.1))
theorem t150 {L : Nat} {S : ov_S} {G : ov_L2}  {P : Option Value → ov_S → ov_L2 → Prop}  {out : Int32 × ov_S} (h : f150 S = some out) (hP : P (some (.int out.1)) out.2 G) : ov_J L 2 150 0 [some (.ref 42), none] [] S G P := by
  unfold f150 at h
  refine ev_aload_n od_150_0 rfl ?_
  refine ev_bipush (v := (12 : Int32)) od_150_1 (by decide) ?_
  obtain ⟨y1, hy1, h⟩ := ov_bd h
  try dsimp only at h
  refine ev_cvi (y := 151) (n := 1) (a := 42) (c := 8) (as := [.int (12 : Int32)]) (rest := []) (dc := 2) oc_150_3 rfl rfl rfl oO_42 rfl rfl rfl rfl (by decide) (R151  hy1) ?_
  refine ev_istore_n (lv1 := [some (.ref 42), some (.int y1.1)]) od_150_6 rfl rfl ?_
  refine ev_iload_n od_150_7 rfl ?_
  refine ev_bipush (v := (-9 : Int32)) od_150_8 (by decide) ?_
  refine ev_icmp_eq (t := 33) od_150_10 (by decide) (fun hc4 => ?_) (fun hc4 => ?_)
  · rw [if_pos hc4] at h
    refine ev_fg (lv0 := [none, some (.int y1.1)]) (ov_le_n (ov_le_s (ov_le_e))) ?_
    exact t150_33  h hP
  · rw [if_neg hc4] at h
    refine ev_aload_n od_150_13 rfl ?_
    refine ev_gf (v := .ref 49) og_150_14 oO_42 rfl ?_
    refine ev_aload_n od_150_17 rfl ?_
    refine ev_gf (v := .int (y1.2 42 13)) og_150_18 oO_42 rfl ?_
    refine ev_iload_n od_150_21 rfl ?_
    obtain ⟨bq3, h⟩ := ov_ck_ok h
    refine ev_iast od_150_22 oA_49 (ov_ibk bq3) ?_
    refine ev_aload_n od_150_23 rfl ?_
    refine ev_dup od_150_24 rfl ?_
    refine ev_gf (v := .int ((ov_up y1.2 49 ((y1.2 42 13)).toNatClampNeg y1.1) 42 13)) og_150_25 oO_42 rfl ?_
    refine ev_iconst (v := (1 : Int32)) od_150_28 (by decide) ?_
    refine ev_iadd od_150_29 ?_
    refine ev_pf op_150_30 oO_42 rfl rfl ?_
    refine ev_fg (lv0 := [none, some (.int y1.1)]) (ov_le_n (ov_le_s (ov_le_e))) ?_
    exact t150_33  h hP
theorem R150 {L : Nat} {S : ov_S} {G : ov_L2}   {out : Int32 × ov_S} (h : f150 S = some out) : ov_R L 3 150 [.ref 42] S G (some (.int out.1)) out.2 G :=
  ov_Rof (t150  h ⟨rfl, rfl, rfl⟩)
-- 153 OEModel.readStoolPart
def f153_32 (S : ov_S) (x1 : Int32) : Option (Int32 × ov_S) :=
  (if x1 = (-9 : Int32) then some ((0 : Int32), S) else some ((1 : Int32), S))
theorem t153_32 {L : Nat} {S : ov_S} {G : ov_L2} {x1 : Int32} {P : Option Value → ov_S → ov_L2 → Prop}  {out : Int32 × ov_S} (h : f153_32 S x1 = some out) (hP : P (some (.int out.1)) out.2 G) : ov_J L 2 153 32 [none, some (.int x1)] [] S G P := by
  unfold f153_32 at h
  refine ev_iload_n od_153_32 rfl ?_
  refine ev_bipush (v := (-9 : Int32)) od_153_33 (by decide) ?_
  refine ev_icmp_eq (t := 42) od_153_35 (by decide) (fun hc2 => ?_) (fun hc2 => ?_)
  · rw [if_pos hc2] at h
    refine ev_iconst (v := (0 : Int32)) od_153_42 (by decide) ?_
    cases h
    exact ev_zret od_153_43 rfl (by decide) hP
  · rw [if_neg hc2] at h
    refine ev_iconst (v := (1 : Int32)) od_153_38 (by decide) ?_
    refine ev_goto (t := 43) od_153_39 (by decide) ?_
    cases h
    exact ev_zret od_153_43 rfl (by decide) hP
def f153 (S : ov_S) : Option (Int32 × ov_S) :=
  (f151 S (0 : Int32)).bind fun y1 => (if y1.1 = (-9 : Int32) then f153_32 y1.2 y1.1 else ov_ck (ov_ibb (y1.2 42 15) 4) (f153_32 (ov_up (ov_up y1.2 50 ((y1.2 42 15)).toNatClampNeg y1.1) 42 15 (((ov_up y1.2 50 ((y1.2 42 15)).toNatClampNeg y1.1) 42 15) + (1 : Int32))) y1.1))
theorem t153 {L : Nat} {S : ov_S} {G : ov_L2}  {P : Option Value → ov_S → ov_L2 → Prop}  {out : Int32 × ov_S} (h : f153 S = some out) (hP : P (some (.int out.1)) out.2 G) : ov_J L 2 153 0 [some (.ref 42), none] [] S G P := by
  unfold f153 at h
  refine ev_aload_n od_153_0 rfl ?_
  refine ev_iconst (v := (0 : Int32)) od_153_1 (by decide) ?_
  obtain ⟨y1, hy1, h⟩ := ov_bd h
  try dsimp only at h
  refine ev_cvi (y := 151) (n := 1) (a := 42) (c := 8) (as := [.int (0 : Int32)]) (rest := []) (dc := 2) oc_153_2 rfl rfl rfl oO_42 rfl rfl rfl rfl (by decide) (R151  hy1) ?_
  refine ev_istore_n (lv1 := [some (.ref 42), some (.int y1.1)]) od_153_5 rfl rfl ?_
  refine ev_iload_n od_153_6 rfl ?_
  refine ev_bipush (v := (-9 : Int32)) od_153_7 (by decide) ?_
  refine ev_icmp_eq (t := 32) od_153_9 (by decide) (fun hc4 => ?_) (fun hc4 => ?_)
  · rw [if_pos hc4] at h
    refine ev_fg (lv0 := [none, some (.int y1.1)]) (ov_le_n (ov_le_s (ov_le_e))) ?_
    exact t153_32  h hP
  · rw [if_neg hc4] at h
    refine ev_aload_n od_153_12 rfl ?_
    refine ev_gf (v := .ref 50) og_153_13 oO_42 rfl ?_
    refine ev_aload_n od_153_16 rfl ?_
    refine ev_gf (v := .int (y1.2 42 15)) og_153_17 oO_42 rfl ?_
    refine ev_iload_n od_153_20 rfl ?_
    obtain ⟨bq3, h⟩ := ov_ck_ok h
    refine ev_iast od_153_21 oA_50 (ov_ibk bq3) ?_
    refine ev_aload_n od_153_22 rfl ?_
    refine ev_dup od_153_23 rfl ?_
    refine ev_gf (v := .int ((ov_up y1.2 50 ((y1.2 42 15)).toNatClampNeg y1.1) 42 15)) og_153_24 oO_42 rfl ?_
    refine ev_iconst (v := (1 : Int32)) od_153_27 (by decide) ?_
    refine ev_iadd od_153_28 ?_
    refine ev_pf op_153_29 oO_42 rfl rfl ?_
    refine ev_fg (lv0 := [none, some (.int y1.1)]) (ov_le_n (ov_le_s (ov_le_e))) ?_
    exact t153_32  h hP
theorem R153 {L : Nat} {S : ov_S} {G : ov_L2}   {out : Int32 × ov_S} (h : f153 S = some out) : ov_R L 3 153 [.ref 42] S G (some (.int out.1)) out.2 G :=
  ov_Rof (t153  h ⟨rfl, rfl, rfl⟩)
-- 154 OEModel.readPartPart
def f154_25 (S : ov_S) (x1 : Int32) (s0 : Int32) : Option (Int32 × ov_S) :=
  (if s0 = (-9 : Int32) then some ((0 : Int32), S) else ov_ck (ov_ibb (S 42 17) 6) (ov_ck (ov_ibb ((ov_up S 51 ((S 42 17)).toNatClampNeg x1) 42 17) 6) (some ((1 : Int32), (ov_up (ov_up (ov_up S 51 ((S 42 17)).toNatClampNeg x1) 52 (((ov_up S 51 ((S 42 17)).toNatClampNeg x1) 42 17)).toNatClampNeg s0) 42 17 (((ov_up (ov_up S 51 ((S 42 17)).toNatClampNeg x1) 52 (((ov_up S 51 ((S 42 17)).toNatClampNeg x1) 42 17)).toNatClampNeg s0) 42 17) + (1 : Int32)))))))
theorem t154_25 {L : Nat} {S : ov_S} {G : ov_L2} {x1 : Int32} {s0 : Int32} {P : Option Value → ov_S → ov_L2 → Prop}  {out : Int32 × ov_S} (h : f154_25 S x1 s0 = some out) (hP : P (some (.int out.1)) out.2 G) : ov_J L 2 154 25 [some (.ref 42), some (.int x1), none] [.int s0] S G P := by
  unfold f154_25 at h
  refine ev_istore_n (lv1 := [some (.ref 42), some (.int x1), some (.int s0)]) od_154_25 rfl rfl ?_
  refine ev_iload_n od_154_26 rfl ?_
  refine ev_bipush (v := (-9 : Int32)) od_154_27 (by decide) ?_
  refine ev_icmp_ne (t := 34) od_154_29 (by decide) (fun hc5 => ?_) (fun hc5 => ?_)
  · rw [if_neg hc5] at h
    refine ev_aload_n od_154_34 rfl ?_
    refine ev_gf (v := .ref 51) og_154_35 oO_42 rfl ?_
    refine ev_aload_n od_154_38 rfl ?_
    refine ev_gf (v := .int (S 42 17)) og_154_39 oO_42 rfl ?_
    refine ev_iload_n od_154_42 rfl ?_
    obtain ⟨bq3, h⟩ := ov_ck_ok h
    refine ev_iast od_154_43 oA_51 (ov_ibk bq3) ?_
    refine ev_aload_n od_154_44 rfl ?_
    refine ev_gf (v := .ref 52) og_154_45 oO_42 rfl ?_
    refine ev_aload_n od_154_48 rfl ?_
    refine ev_gf (v := .int ((ov_up S 51 ((S 42 17)).toNatClampNeg x1) 42 17)) og_154_49 oO_42 rfl ?_
    refine ev_iload_n od_154_52 rfl ?_
    obtain ⟨bq4, h⟩ := ov_ck_ok h
    refine ev_iast od_154_53 oA_52 (ov_ibk bq4) ?_
    refine ev_aload_n od_154_54 rfl ?_
    refine ev_dup od_154_55 rfl ?_
    refine ev_gf (v := .int ((ov_up (ov_up S 51 ((S 42 17)).toNatClampNeg x1) 52 (((ov_up S 51 ((S 42 17)).toNatClampNeg x1) 42 17)).toNatClampNeg s0) 42 17)) og_154_56 oO_42 rfl ?_
    refine ev_iconst (v := (1 : Int32)) od_154_59 (by decide) ?_
    refine ev_iadd od_154_60 ?_
    refine ev_pf op_154_61 oO_42 rfl rfl ?_
    refine ev_iconst (v := (1 : Int32)) od_154_64 (by decide) ?_
    cases h
    exact ev_zret od_154_65 rfl (by decide) hP
  · rw [if_pos hc5] at h
    refine ev_iconst (v := (0 : Int32)) od_154_32 (by decide) ?_
    cases h
    exact ev_zret od_154_33 rfl (by decide) hP
def f154 (S : ov_S) : Option (Int32 × ov_S) :=
  (f155 S (1 : Int32) (9 : Int32)).bind fun y1 => (if y1.1 = (-9 : Int32) then f154_25 y1.2 y1.1 (-9 : Int32) else (f155 y1.2 (0 : Int32) (3 : Int32)).bind fun y2 => f154_25 y2.2 y1.1 y2.1)
theorem t154 {L : Nat} {S : ov_S} {G : ov_L2}  {P : Option Value → ov_S → ov_L2 → Prop}  {out : Int32 × ov_S} (h : f154 S = some out) (hP : P (some (.int out.1)) out.2 G) : ov_J L 2 154 0 [some (.ref 42), none, none] [] S G P := by
  unfold f154 at h
  refine ev_aload_n od_154_0 rfl ?_
  refine ev_iconst (v := (1 : Int32)) od_154_1 (by decide) ?_
  refine ev_bipush (v := (9 : Int32)) od_154_2 (by decide) ?_
  obtain ⟨y1, hy1, h⟩ := ov_bd h
  try dsimp only at h
  refine ev_cvi (y := 155) (n := 2) (a := 42) (c := 8) (as := [.int (1 : Int32), .int (9 : Int32)]) (rest := []) (dc := 2) oc_154_4 rfl rfl rfl oO_42 rfl rfl rfl rfl (by decide) (R155  hy1) ?_
  refine ev_istore_n (lv1 := [some (.ref 42), some (.int y1.1), none]) od_154_7 rfl rfl ?_
  refine ev_iload_n od_154_8 rfl ?_
  refine ev_bipush (v := (-9 : Int32)) od_154_9 (by decide) ?_
  refine ev_icmp_ne (t := 19) od_154_11 (by decide) (fun hc6 => ?_) (fun hc6 => ?_)
  · rw [if_neg hc6] at h
    refine ev_aload_n od_154_19 rfl ?_
    refine ev_iconst (v := (0 : Int32)) od_154_20 (by decide) ?_
    refine ev_iconst (v := (3 : Int32)) od_154_21 (by decide) ?_
    obtain ⟨y2, hy2, h⟩ := ov_bd h
    try dsimp only at h
    refine ev_cvi (y := 155) (n := 2) (a := 42) (c := 8) (as := [.int (0 : Int32), .int (3 : Int32)]) (rest := []) (dc := 2) oc_154_22 rfl rfl rfl oO_42 rfl rfl rfl rfl (by decide) (R155  hy2) ?_
    exact t154_25  h hP
  · rw [if_pos hc6] at h
    refine ev_bipush (v := (-9 : Int32)) od_154_14 (by decide) ?_
    refine ev_goto (t := 25) od_154_16 (by decide) ?_
    exact t154_25  h hP
theorem R154 {L : Nat} {S : ov_S} {G : ov_L2}   {out : Int32 × ov_S} (h : f154 S = some out) : ov_R L 3 154 [.ref 42] S G (some (.int out.1)) out.2 G :=
  ov_Rof (t154  h ⟨rfl, rfl, rfl⟩)
-- 156 OEModel.readLinePart
def f156_47 (S : ov_S) (x1 : Int32) (x2 : Int32) (s0 : Int32) (s1 : Int32) : Option (Int32 × ov_S) :=
  (if x2 = (-9 : Int32) then some ((0 : Int32), (ov_up S 42 3 (s1 - s0))) else (if x2 = x1 then some ((0 : Int32), (ov_up S 42 3 (s1 - s0))) else ov_ck (ov_ibb ((ov_up S 42 3 (s1 - s0)) 42 20) 6) (ov_ck (ov_ibb ((ov_up (ov_up S 42 3 (s1 - s0)) 53 (((ov_up S 42 3 (s1 - s0)) 42 20)).toNatClampNeg x1) 42 20) 6) (some ((1 : Int32), (ov_up (ov_up (ov_up (ov_up S 42 3 (s1 - s0)) 53 (((ov_up S 42 3 (s1 - s0)) 42 20)).toNatClampNeg x1) 54 (((ov_up (ov_up S 42 3 (s1 - s0)) 53 (((ov_up S 42 3 (s1 - s0)) 42 20)).toNatClampNeg x1) 42 20)).toNatClampNeg x2) 42 20 (((ov_up (ov_up (ov_up S 42 3 (s1 - s0)) 53 (((ov_up S 42 3 (s1 - s0)) 42 20)).toNatClampNeg x1) 54 (((ov_up (ov_up S 42 3 (s1 - s0)) 53 (((ov_up S 42 3 (s1 - s0)) 42 20)).toNatClampNeg x1) 42 20)).toNatClampNeg x2) 42 20) + (1 : Int32))))))))
theorem t156_47 {L : Nat} {S : ov_S} {G : ov_L2} {x1 : Int32} {x2 : Int32} {s0 : Int32} {s1 : Int32} {P : Option Value → ov_S → ov_L2 → Prop}  {out : Int32 × ov_S} (h : f156_47 S x1 x2 s0 s1 = some out) (hP : P (some (.int out.1)) out.2 G) : ov_J L 2 156 47 [some (.ref 42), some (.int x1), some (.int x2)] [.int s0, .int s1, .ref 42] S G P := by
  unfold f156_47 at h
  refine ev_isub od_156_47 ?_
  refine ev_pf op_156_48 oO_42 rfl rfl ?_
  refine ev_iload_n od_156_51 rfl ?_
  refine ev_bipush (v := (-9 : Int32)) od_156_52 (by decide) ?_
  refine ev_icmp_eq (t := 62) od_156_54 (by decide) (fun hc6 => ?_) (fun hc6 => ?_)
  · rw [if_pos hc6] at h
    refine ev_iconst (v := (0 : Int32)) od_156_62 (by decide) ?_
    cases h
    exact ev_zret od_156_63 rfl (by decide) hP
  · rw [if_neg hc6] at h
    refine ev_iload_n od_156_57 rfl ?_
    refine ev_iload_n od_156_58 rfl ?_
    refine ev_icmp_ne (t := 64) od_156_59 (by decide) (fun hc5 => ?_) (fun hc5 => ?_)
    · rw [if_neg hc5] at h
      refine ev_aload_n od_156_64 rfl ?_
      refine ev_gf (v := .ref 53) og_156_65 oO_42 rfl ?_
      refine ev_aload_n od_156_68 rfl ?_
      refine ev_gf (v := .int ((ov_up S 42 3 (s1 - s0)) 42 20)) og_156_69 oO_42 rfl ?_
      refine ev_iload_n od_156_72 rfl ?_
      obtain ⟨bq3, h⟩ := ov_ck_ok h
      refine ev_iast od_156_73 oA_53 (ov_ibk bq3) ?_
      refine ev_aload_n od_156_74 rfl ?_
      refine ev_gf (v := .ref 54) og_156_75 oO_42 rfl ?_
      refine ev_aload_n od_156_78 rfl ?_
      refine ev_gf (v := .int ((ov_up (ov_up S 42 3 (s1 - s0)) 53 (((ov_up S 42 3 (s1 - s0)) 42 20)).toNatClampNeg x1) 42 20)) og_156_79 oO_42 rfl ?_
      refine ev_iload_n od_156_82 rfl ?_
      obtain ⟨bq4, h⟩ := ov_ck_ok h
      refine ev_iast od_156_83 oA_54 (ov_ibk bq4) ?_
      refine ev_aload_n od_156_84 rfl ?_
      refine ev_dup od_156_85 rfl ?_
      refine ev_gf (v := .int ((ov_up (ov_up (ov_up S 42 3 (s1 - s0)) 53 (((ov_up S 42 3 (s1 - s0)) 42 20)).toNatClampNeg x1) 54 (((ov_up (ov_up S 42 3 (s1 - s0)) 53 (((ov_up S 42 3 (s1 - s0)) 42 20)).toNatClampNeg x1) 42 20)).toNatClampNeg x2) 42 20)) og_156_86 oO_42 rfl ?_
      refine ev_iconst (v := (1 : Int32)) od_156_89 (by decide) ?_
      refine ev_iadd od_156_90 ?_
      refine ev_pf op_156_91 oO_42 rfl rfl ?_
      refine ev_iconst (v := (1 : Int32)) od_156_94 (by decide) ?_
      cases h
      exact ev_zret od_156_95 rfl (by decide) hP
    · rw [if_pos hc5] at h
      refine ev_iconst (v := (0 : Int32)) od_156_62 (by decide) ?_
      cases h
      exact ev_zret od_156_63 rfl (by decide) hP
def f156 (S : ov_S) : Option (Int32 × ov_S) :=
  (f155 S (0 : Int32) ((S 42 17) - (1 : Int32))).bind fun y1 => (if y1.1 = (-9 : Int32) then some ((0 : Int32), y1.2) else (f155 y1.2 (0 : Int32) ((y1.2 42 17) - (1 : Int32))).bind fun y2 => (if y2.1 = y1.1 then f156_47 y2.2 y1.1 y2.1 (1 : Int32) (y2.2 42 3) else f156_47 y2.2 y1.1 y2.1 (0 : Int32) (y2.2 42 3)))
theorem t156 {L : Nat} {S : ov_S} {G : ov_L2}  {P : Option Value → ov_S → ov_L2 → Prop}  {out : Int32 × ov_S} (h : f156 S = some out) (hP : P (some (.int out.1)) out.2 G) : ov_J L 2 156 0 [some (.ref 42), none, none] [] S G P := by
  unfold f156 at h
  refine ev_aload_n od_156_0 rfl ?_
  refine ev_iconst (v := (0 : Int32)) od_156_1 (by decide) ?_
  refine ev_aload_n od_156_2 rfl ?_
  refine ev_gf (v := .int (S 42 17)) og_156_3 oO_42 rfl ?_
  refine ev_iconst (v := (1 : Int32)) od_156_6 (by decide) ?_
  refine ev_isub od_156_7 ?_
  obtain ⟨y1, hy1, h⟩ := ov_bd h
  try dsimp only at h
  refine ev_cvi (y := 155) (n := 2) (a := 42) (c := 8) (as := [.int (0 : Int32), .int ((S 42 17) - (1 : Int32))]) (rest := []) (dc := 2) oc_156_8 rfl rfl rfl oO_42 rfl rfl rfl rfl (by decide) (R155  hy1) ?_
  refine ev_istore_n (lv1 := [some (.ref 42), some (.int y1.1), none]) od_156_11 rfl rfl ?_
  refine ev_iload_n od_156_12 rfl ?_
  refine ev_bipush (v := (-9 : Int32)) od_156_13 (by decide) ?_
  refine ev_icmp_ne (t := 20) od_156_15 (by decide) (fun hc8 => ?_) (fun hc8 => ?_)
  · rw [if_neg hc8] at h
    refine ev_aload_n od_156_20 rfl ?_
    refine ev_iconst (v := (0 : Int32)) od_156_21 (by decide) ?_
    refine ev_aload_n od_156_22 rfl ?_
    refine ev_gf (v := .int (y1.2 42 17)) og_156_23 oO_42 rfl ?_
    refine ev_iconst (v := (1 : Int32)) od_156_26 (by decide) ?_
    refine ev_isub od_156_27 ?_
    obtain ⟨y2, hy2, h⟩ := ov_bd h
    try dsimp only at h
    refine ev_cvi (y := 155) (n := 2) (a := 42) (c := 8) (as := [.int (0 : Int32), .int ((y1.2 42 17) - (1 : Int32))]) (rest := []) (dc := 2) oc_156_28 rfl rfl rfl oO_42 rfl rfl rfl rfl (by decide) (R155  hy2) ?_
    refine ev_istore_n (lv1 := [some (.ref 42), some (.int y1.1), some (.int y2.1)]) od_156_31 rfl rfl ?_
    refine ev_aload_n od_156_32 rfl ?_
    refine ev_dup od_156_33 rfl ?_
    refine ev_gf (v := .int (y2.2 42 3)) og_156_34 oO_42 rfl ?_
    refine ev_iload_n od_156_37 rfl ?_
    refine ev_iload_n od_156_38 rfl ?_
    refine ev_icmp_ne (t := 46) od_156_39 (by decide) (fun hc7 => ?_) (fun hc7 => ?_)
    · rw [if_neg hc7] at h
      refine ev_iconst (v := (0 : Int32)) od_156_46 (by decide) ?_
      exact t156_47  h hP
    · rw [if_pos hc7] at h
      refine ev_iconst (v := (1 : Int32)) od_156_42 (by decide) ?_
      refine ev_goto (t := 47) od_156_43 (by decide) ?_
      exact t156_47  h hP
  · rw [if_pos hc8] at h
    refine ev_iconst (v := (0 : Int32)) od_156_18 (by decide) ?_
    cases h
    exact ev_zret od_156_19 rfl (by decide) hP
theorem R156 {L : Nat} {S : ov_S} {G : ov_L2}   {out : Int32 × ov_S} (h : f156 S = some out) : ov_R L 3 156 [.ref 42] S G (some (.int out.1)) out.2 G :=
  ov_Rof (t156  h ⟨rfl, rfl, rfl⟩)
-- 165 OEModel.barsOf
def f165 (p1 : Nat) (S : ov_S) (x2 : Int32) (x3 : Int32) : Option (Int32) :=
  ov_ck (ov_ibb ((0 : Int32) + x2) (ov_ln p1)) ((if (S p1 (((0 : Int32) + x2)).toNatClampNeg) = (-9 : Int32) then some (-9 : Int32) else ov_ck (ov_ibb ((0 : Int32) + x3) (ov_ln p1)) ((if (S p1 (((0 : Int32) + x3)).toNatClampNeg) = (-9 : Int32) then some (-9 : Int32) else ov_ck (ov_ibb ((0 : Int32) + x2) (ov_ln p1)) (ov_ck (ov_ibb ((0 : Int32) + x3) (ov_ln p1)) ((f166 (S p1 (((0 : Int32) + x2)).toNatClampNeg) (S p1 (((0 : Int32) + x3)).toNatClampNeg)).bind fun y5 => (if y5 = (-9 : Int32) then some (-9 : Int32) else (f168 p1 S).bind fun y6 => (if (y5 &&& y6) = 0 then (f169 p1 S y5).bind fun y7 => some y7 else some (-9 : Int32)))))))))
theorem t165 {L : Nat} {S : ov_S} {G : ov_L2} {p1 : Nat} {x2 : Int32} {x3 : Int32} {P : Option Value → ov_S → ov_L2 → Prop} (hp1 : ov_A 1 p1) {out : Int32} (h : f165 p1 S x2 x3 = some out) (hP : P (some (.int out)) S G) : ov_J L 2 165 0 [some (.ref 42), some (.ref p1), some (.int x2), some (.int x3), none] [] S G P := by
  unfold f165 at h
  refine ev_aload_n od_165_0 rfl ?_
  refine ev_iconst (v := (0 : Int32)) od_165_1 (by decide) ?_
  refine ev_iload_n od_165_2 rfl ?_
  refine ev_iadd od_165_3 ?_
  obtain ⟨bq1, h⟩ := ov_ck_ok h
  refine ev_iald od_165_4 hp1 (ov_ibk bq1) ?_
  refine ev_bipush (v := (-9 : Int32)) od_165_5 (by decide) ?_
  refine ev_icmp_eq (t := 20) od_165_7 (by decide) (fun hc11 => ?_) (fun hc11 => ?_)
  · rw [if_pos hc11] at h
    refine ev_bipush (v := (-9 : Int32)) od_165_20 (by decide) ?_
    cases h
    exact ev_iret od_165_22 rfl hP
  · rw [if_neg hc11] at h
    refine ev_aload_n od_165_10 rfl ?_
    refine ev_iconst (v := (0 : Int32)) od_165_11 (by decide) ?_
    refine ev_iload_n od_165_12 rfl ?_
    refine ev_iadd od_165_13 ?_
    obtain ⟨bq2, h⟩ := ov_ck_ok h
    refine ev_iald od_165_14 hp1 (ov_ibk bq2) ?_
    refine ev_bipush (v := (-9 : Int32)) od_165_15 (by decide) ?_
    refine ev_icmp_ne (t := 23) od_165_17 (by decide) (fun hc10 => ?_) (fun hc10 => ?_)
    · rw [if_neg hc10] at h
      refine ev_aload_n od_165_23 rfl ?_
      refine ev_iconst (v := (0 : Int32)) od_165_24 (by decide) ?_
      refine ev_iload_n od_165_25 rfl ?_
      refine ev_iadd od_165_26 ?_
      obtain ⟨bq3, h⟩ := ov_ck_ok h
      refine ev_iald od_165_27 hp1 (ov_ibk bq3) ?_
      refine ev_aload_n od_165_28 rfl ?_
      refine ev_iconst (v := (0 : Int32)) od_165_29 (by decide) ?_
      refine ev_iload_n od_165_30 rfl ?_
      refine ev_iadd od_165_31 ?_
      obtain ⟨bq4, h⟩ := ov_ck_ok h
      refine ev_iald od_165_32 hp1 (ov_ibk bq4) ?_
      obtain ⟨y5, hy5, h⟩ := ov_bd h
      try dsimp only at h
      refine ev_csi (y := 166) (n := 2) (as := [.int (S p1 (((0 : Int32) + x2)).toNatClampNeg), .int (S p1 (((0 : Int32) + x3)).toNatClampNeg)]) (rest := []) (dc := 2) oc_165_33 rfl rfl rfl rfl rfl (by decide) (R166  hy5) ?_
      refine ev_istore (lv1 := [some (.ref 42), some (.ref p1), some (.int x2), some (.int x3), some (.int y5)]) od_165_36 rfl rfl ?_
      refine ev_iload od_165_38 rfl ?_
      refine ev_bipush (v := (-9 : Int32)) od_165_40 (by decide) ?_
      refine ev_icmp_eq (t := 56) od_165_42 (by decide) (fun hc9 => ?_) (fun hc9 => ?_)
      · rw [if_pos hc9] at h
        refine ev_bipush (v := (-9 : Int32)) od_165_56 (by decide) ?_
        refine ev_goto (t := 68) od_165_58 (by decide) ?_
        cases h
        exact ev_iret od_165_68 rfl hP
      · rw [if_neg hc9] at h
        refine ev_iload od_165_45 rfl ?_
        refine ev_aload_n od_165_47 rfl ?_
        refine ev_aload_n od_165_48 rfl ?_
        obtain ⟨y6, hy6, h⟩ := ov_bd h
        try dsimp only at h
        refine ev_cvi (y := 168) (n := 1) (a := 42) (c := 8) (as := [.ref p1]) (rest := [.int y5]) (dc := 1) oc_165_49 rfl rfl rfl oO_42 rfl rfl rfl rfl (by decide) (R168 hp1 hy6) ?_
        refine ev_iand od_165_52 ?_
        refine ev_if_eq (t := 61) od_165_53 (by decide) (fun hc8 => ?_) (fun hc8 => ?_)
        · rw [if_pos hc8] at h
          refine ev_aload_n od_165_61 rfl ?_
          refine ev_aload_n od_165_62 rfl ?_
          refine ev_iload od_165_63 rfl ?_
          obtain ⟨y7, hy7, h⟩ := ov_bd h
          try dsimp only at h
          refine ev_cvi (y := 169) (n := 2) (a := 42) (c := 8) (as := [.ref p1, .int y5]) (rest := []) (dc := 2) oc_165_65 rfl rfl rfl oO_42 rfl rfl rfl rfl (by decide) (R169 hp1 hy7) ?_
          cases h
          exact ev_iret od_165_68 rfl hP
        · rw [if_neg hc8] at h
          refine ev_bipush (v := (-9 : Int32)) od_165_56 (by decide) ?_
          refine ev_goto (t := 68) od_165_58 (by decide) ?_
          cases h
          exact ev_iret od_165_68 rfl hP
    · rw [if_pos hc10] at h
      refine ev_bipush (v := (-9 : Int32)) od_165_20 (by decide) ?_
      cases h
      exact ev_iret od_165_22 rfl hP
theorem R165 {L : Nat} {S : ov_S} {G : ov_L2} {p1 : Nat} {x2 : Int32} {x3 : Int32} (hp1 : ov_A 1 p1) {out : Int32} (h : f165 p1 S x2 x3 = some out) : ov_R L 3 165 [.ref 42, .ref p1, .int x2, .int x3] S G (some (.int out)) S G :=
  ov_Rof (t165 hp1 h ⟨rfl, rfl, rfl⟩)
-- 171 OEModel.door
def f171 (S : ov_S) (x1 : Int32) : Option (Int32 × ov_S) :=
  (f172 (ov_up S 42 0 (0 : Int32)) x1).bind fun y1 => (if y1 = 0 then ov_ck (ov_ibb x1 3) (some (((ov_up S 42 0 (0 : Int32)) 44 (x1).toNatClampNeg), (ov_up S 42 0 (0 : Int32)))) else some ((-1 : Int32), (ov_up S 42 0 (0 : Int32))))
theorem t171 {L : Nat} {S : ov_S} {G : ov_L2} {x1 : Int32} {P : Option Value → ov_S → ov_L2 → Prop}  {out : Int32 × ov_S} (h : f171 S x1 = some out) (hP : P (some (.int out.1)) out.2 G) : ov_J L 2 171 0 [some (.ref 42), some (.int x1)] [] S G P := by
  unfold f171 at h
  refine ev_aload_n od_171_0 rfl ?_
  refine ev_iconst (v := (0 : Int32)) od_171_1 (by decide) ?_
  refine ev_pf op_171_2 oO_42 rfl rfl ?_
  refine ev_aload_n od_171_5 rfl ?_
  refine ev_iload_n od_171_6 rfl ?_
  obtain ⟨y1, hy1, h⟩ := ov_bd h
  try dsimp only at h
  refine ev_cvi (y := 172) (n := 1) (a := 42) (c := 8) (as := [.int x1]) (rest := []) (dc := 2) oc_171_7 rfl rfl rfl oO_42 rfl rfl rfl rfl (by decide) (R172  hy1) ?_
  refine ev_if_eq (t := 17) od_171_10 (by decide) (fun hc3 => ?_) (fun hc3 => ?_)
  · rw [if_pos hc3] at h
    refine ev_aload_n od_171_17 rfl ?_
    refine ev_gf (v := .ref 44) og_171_18 oO_42 rfl ?_
    refine ev_iload_n od_171_21 rfl ?_
    obtain ⟨bq2, h⟩ := ov_ck_ok h
    refine ev_iald od_171_22 oA_44 (ov_ibk bq2) ?_
    cases h
    exact ev_iret od_171_23 rfl hP
  · rw [if_neg hc3] at h
    refine ev_iconst (v := (-1 : Int32)) od_171_13 (by decide) ?_
    refine ev_goto (t := 23) od_171_14 (by decide) ?_
    cases h
    exact ev_iret od_171_23 rfl hP
theorem R171 {L : Nat} {S : ov_S} {G : ov_L2} {x1 : Int32}  {out : Int32 × ov_S} (h : f171 S x1 = some out) : ov_R L 3 171 [.ref 42, .int x1] S G (some (.int out.1)) out.2 G :=
  ov_Rof (t171  h ⟨rfl, rfl, rfl⟩)
-- 178 OEModel.layWays
def f178_26 (p1 : Nat) (S : ov_S) (s0 : Int32) (s1 : Int32) : Option (ov_S) :=
  (f179 S s1 s0).bind fun y4 => some y4
theorem t178_26 {L : Nat} {S : ov_S} {G : ov_L2} {p1 : Nat} {s0 : Int32} {s1 : Int32} {P : Option Value → ov_S → ov_L2 → Prop} (hp1 : ov_A 1 p1) {out : ov_S} (h : f178_26 p1 S s0 s1 = some out) (hP : P none out G) : ov_J L 2 178 26 [none, none, none] [.int s0, .int s1, .ref 42] S G P := by
  unfold f178_26 at h
  obtain ⟨y4, hy4, h⟩ := ov_bd h
  try dsimp only at h
  refine ev_cvv (y := 179) (n := 2) (a := 42) (c := 8) (as := [.int s1, .int s0]) (rest := []) (dc := 2) oc_178_26 rfl rfl rfl oO_42 rfl rfl rfl rfl (by decide) (R179  hy4) ?_
  cases h
  exact ev_vret od_178_29 rfl hP
def f178 (p1 : Nat) (S : ov_S) (x2 : Int32) : Option (ov_S) :=
  ov_ck (ov_ibb ((0 : Int32) + x2) (ov_ln p1)) (ov_ck (ov_ibb x2 6) ((if (S 46 (x2).toNatClampNeg) = (1 : Int32) then f178_26 p1 S (262143 : Int32) (S p1 (((0 : Int32) + x2)).toNatClampNeg) else (f170 p1 S).bind fun y3 => f178_26 p1 S y3 (S p1 (((0 : Int32) + x2)).toNatClampNeg))))
theorem t178 {L : Nat} {S : ov_S} {G : ov_L2} {p1 : Nat} {x2 : Int32} {P : Option Value → ov_S → ov_L2 → Prop} (hp1 : ov_A 1 p1) {out : ov_S} (h : f178 p1 S x2 = some out) (hP : P none out G) : ov_J L 2 178 0 [some (.ref 42), some (.ref p1), some (.int x2)] [] S G P := by
  unfold f178 at h
  refine ev_aload_n od_178_0 rfl ?_
  refine ev_aload_n od_178_1 rfl ?_
  refine ev_iconst (v := (0 : Int32)) od_178_2 (by decide) ?_
  refine ev_iload_n od_178_3 rfl ?_
  refine ev_iadd od_178_4 ?_
  obtain ⟨bq1, h⟩ := ov_ck_ok h
  refine ev_iald od_178_5 hp1 (ov_ibk bq1) ?_
  refine ev_aload_n od_178_6 rfl ?_
  refine ev_gf (v := .ref 46) og_178_7 oO_42 rfl ?_
  refine ev_iload_n od_178_10 rfl ?_
  obtain ⟨bq2, h⟩ := ov_ck_ok h
  refine ev_iald od_178_11 oA_46 (ov_ibk bq2) ?_
  refine ev_iconst (v := (1 : Int32)) od_178_12 (by decide) ?_
  refine ev_icmp_ne (t := 21) od_178_13 (by decide) (fun hc6 => ?_) (fun hc6 => ?_)
  · rw [if_neg hc6] at h
    refine ev_aload_n od_178_21 rfl ?_
    refine ev_aload_n od_178_22 rfl ?_
    obtain ⟨y3, hy3, h⟩ := ov_bd h
    try dsimp only at h
    refine ev_cvi (y := 170) (n := 1) (a := 42) (c := 8) (as := [.ref p1]) (rest := [.int (S p1 (((0 : Int32) + x2)).toNatClampNeg), .ref 42]) (dc := 2) oc_178_23 rfl rfl rfl oO_42 rfl rfl rfl rfl (by decide) (R170 hp1 hy3) ?_
    refine ev_fg (lv0 := [none, none, none]) (ov_le_n (ov_le_n (ov_le_n (ov_le_e)))) ?_
    exact t178_26 hp1 h hP
  · rw [if_pos hc6] at h
    obtain ⟨w5, hw5⟩ := ok_178_16
    refine ev_ldc od_178_16 hw5 ?_
    refine ev_goto (t := 26) od_178_18 (by decide) ?_
    refine ev_fg (lv0 := [none, none, none]) (ov_le_n (ov_le_n (ov_le_n (ov_le_e)))) ?_
    exact t178_26 hp1 h hP
theorem R178 {L : Nat} {S : ov_S} {G : ov_L2} {p1 : Nat} {x2 : Int32} (hp1 : ov_A 1 p1) {out : ov_S} (h : f178 p1 S x2 = some out) : ov_R L 3 178 [.ref 42, .ref p1, .int x2] S G none out G :=
  ov_Rof (t178 hp1 h ⟨rfl, rfl, rfl⟩)
-- 186 OEModel.isFree
def f186 (p1 : Nat) (S : ov_S) (x2 : Int32) : Option (Int32) :=
  (f170 p1 S).bind fun y1 => (f152 y1 x2).bind fun y2 => (if y2 = 0 then some (1 : Int32) else some (0 : Int32))
theorem t186 {L : Nat} {S : ov_S} {G : ov_L2} {p1 : Nat} {x2 : Int32} {P : Option Value → ov_S → ov_L2 → Prop} (hp1 : ov_A 1 p1) {out : Int32} (h : f186 p1 S x2 = some out) (hP : P (some (.int out)) S G) : ov_J L 2 186 0 [some (.ref 42), some (.ref p1), some (.int x2)] [] S G P := by
  unfold f186 at h
  refine ev_aload_n od_186_0 rfl ?_
  refine ev_aload_n od_186_1 rfl ?_
  obtain ⟨y1, hy1, h⟩ := ov_bd h
  try dsimp only at h
  refine ev_cvi (y := 170) (n := 1) (a := 42) (c := 8) (as := [.ref p1]) (rest := []) (dc := 2) oc_186_2 rfl rfl rfl oO_42 rfl rfl rfl rfl (by decide) (R170 hp1 hy1) ?_
  refine ev_iload_n od_186_5 rfl ?_
  obtain ⟨y2, hy2, h⟩ := ov_bd h
  try dsimp only at h
  refine ev_csi (y := 152) (n := 2) (as := [.int y1, .int x2]) (rest := []) (dc := 1) oc_186_6 rfl rfl rfl rfl rfl (by decide) (R152  hy2) ?_
  refine ev_if_ne (t := 16) od_186_9 (by decide) (fun hc3 => ?_) (fun hc3 => ?_)
  · rw [if_neg hc3] at h
    refine ev_iconst (v := (0 : Int32)) od_186_16 (by decide) ?_
    cases h
    exact ev_zret od_186_17 rfl (by decide) hP
  · rw [if_pos hc3] at h
    refine ev_iconst (v := (1 : Int32)) od_186_12 (by decide) ?_
    refine ev_goto (t := 17) od_186_13 (by decide) ?_
    cases h
    exact ev_zret od_186_17 rfl (by decide) hP
theorem R186 {L : Nat} {S : ov_S} {G : ov_L2} {p1 : Nat} {x2 : Int32} (hp1 : ov_A 1 p1) {out : Int32} (h : f186 p1 S x2 = some out) : ov_R L 3 186 [.ref 42, .ref p1, .int x2] S G (some (.int out)) S G :=
  ov_Rof (t186 hp1 h ⟨rfl, rfl, rfl⟩)
-- 215 OEModel.tread
def f215 (S : ov_S) (x1 : Int32) (x2 : Int32) : Option (Int32 × ov_S) :=
  (f193 x1).bind fun y1 => (if y1 = 0 then (f144 (x2).toInt64 (0 : Int64) (9 : Int64)).bind fun y3 => (if y3 = 0 then some ((-2 : Int32), (ov_up S 42 0 (0 : Int32))) else (if ((ov_up S 42 0 (0 : Int32)) 42 30) = (6 : Int32) then some ((-4 : Int32), (ov_up S 42 0 (0 : Int32))) else ov_ck (ov_ibb ((ov_up S 42 0 (0 : Int32)) 42 30) 6) (ov_ck (ov_ibb ((ov_up (ov_up S 42 0 (0 : Int32)) 61 (((ov_up S 42 0 (0 : Int32)) 42 30)).toNatClampNeg x1) 42 30) 6) (some (((ov_up (ov_up (ov_up (ov_up S 42 0 (0 : Int32)) 61 (((ov_up S 42 0 (0 : Int32)) 42 30)).toNatClampNeg x1) 62 (((ov_up (ov_up S 42 0 (0 : Int32)) 61 (((ov_up S 42 0 (0 : Int32)) 42 30)).toNatClampNeg x1) 42 30)).toNatClampNeg x2) 42 30 (((ov_up (ov_up (ov_up S 42 0 (0 : Int32)) 61 (((ov_up S 42 0 (0 : Int32)) 42 30)).toNatClampNeg x1) 62 (((ov_up (ov_up S 42 0 (0 : Int32)) 61 (((ov_up S 42 0 (0 : Int32)) 42 30)).toNatClampNeg x1) 42 30)).toNatClampNeg x2) 42 30) + (1 : Int32))) 42 30), (ov_up (ov_up (ov_up (ov_up S 42 0 (0 : Int32)) 61 (((ov_up S 42 0 (0 : Int32)) 42 30)).toNatClampNeg x1) 62 (((ov_up (ov_up S 42 0 (0 : Int32)) 61 (((ov_up S 42 0 (0 : Int32)) 42 30)).toNatClampNeg x1) 42 30)).toNatClampNeg x2) 42 30 (((ov_up (ov_up (ov_up S 42 0 (0 : Int32)) 61 (((ov_up S 42 0 (0 : Int32)) 42 30)).toNatClampNeg x1) 62 (((ov_up (ov_up S 42 0 (0 : Int32)) 61 (((ov_up S 42 0 (0 : Int32)) 42 30)).toNatClampNeg x1) 42 30)).toNatClampNeg x2) 42 30) + (1 : Int32)))))))) else some ((-1 : Int32), (ov_up S 42 0 (0 : Int32))))
theorem t215 {L : Nat} {S : ov_S} {G : ov_L2} {x1 : Int32} {x2 : Int32} {P : Option Value → ov_S → ov_L2 → Prop}  {out : Int32 × ov_S} (h : f215 S x1 x2 = some out) (hP : P (some (.int out.1)) out.2 G) : ov_J L 2 215 0 [some (.ref 42), some (.int x1), some (.int x2)] [] S G P := by
  unfold f215 at h
  refine ev_aload_n od_215_0 rfl ?_
  refine ev_iconst (v := (0 : Int32)) od_215_1 (by decide) ?_
  refine ev_pf op_215_2 oO_42 rfl rfl ?_
  refine ev_iload_n od_215_5 rfl ?_
  obtain ⟨y1, hy1, h⟩ := ov_bd h
  try dsimp only at h
  refine ev_csi (y := 193) (n := 1) (as := [.int x1]) (rest := []) (dc := 2) oc_215_6 rfl rfl rfl rfl rfl (by decide) (R193  hy1) ?_
  refine ev_if_eq (t := 14) od_215_9 (by decide) (fun hc8 => ?_) (fun hc8 => ?_)
  · rw [if_pos hc8] at h
    refine ev_iload_n od_215_14 rfl ?_
    refine ev_i2l od_215_15 ?_
    refine ev_lconst (v := (0 : Int64)) od_215_16 (by decide) ?_
    obtain ⟨w2, hw2⟩ := ok_215_17
    refine ev_ldc2_w od_215_17 hw2 ?_
    obtain ⟨y3, hy3, h⟩ := ov_bd h
    try dsimp only at h
    refine ev_csi (y := 144) (n := 3) (as := [.long (x2).toInt64, .long (0 : Int64), .long (9 : Int64)]) (rest := []) (dc := 1) oc_215_20 rfl rfl rfl rfl rfl (by decide) (R144  hy3) ?_
    refine ev_if_ne (t := 29) od_215_23 (by decide) (fun hc7 => ?_) (fun hc7 => ?_)
    · rw [if_neg hc7] at h
      refine ev_aload_n od_215_29 rfl ?_
      refine ev_gf (v := .int ((ov_up S 42 0 (0 : Int32)) 42 30)) og_215_30 oO_42 rfl ?_
      refine ev_bipush (v := (6 : Int32)) od_215_33 (by decide) ?_
      refine ev_icmp_ne (t := 41) od_215_35 (by decide) (fun hc6 => ?_) (fun hc6 => ?_)
      · rw [if_neg hc6] at h
        refine ev_aload_n od_215_41 rfl ?_
        refine ev_gf (v := .ref 61) og_215_42 oO_42 rfl ?_
        refine ev_aload_n od_215_45 rfl ?_
        refine ev_gf (v := .int ((ov_up S 42 0 (0 : Int32)) 42 30)) og_215_46 oO_42 rfl ?_
        refine ev_iload_n od_215_49 rfl ?_
        obtain ⟨bq4, h⟩ := ov_ck_ok h
        refine ev_iast od_215_50 oA_61 (ov_ibk bq4) ?_
        refine ev_aload_n od_215_51 rfl ?_
        refine ev_gf (v := .ref 62) og_215_52 oO_42 rfl ?_
        refine ev_aload_n od_215_55 rfl ?_
        refine ev_gf (v := .int ((ov_up (ov_up S 42 0 (0 : Int32)) 61 (((ov_up S 42 0 (0 : Int32)) 42 30)).toNatClampNeg x1) 42 30)) og_215_56 oO_42 rfl ?_
        refine ev_iload_n od_215_59 rfl ?_
        obtain ⟨bq5, h⟩ := ov_ck_ok h
        refine ev_iast od_215_60 oA_62 (ov_ibk bq5) ?_
        refine ev_aload_n od_215_61 rfl ?_
        refine ev_dup od_215_62 rfl ?_
        refine ev_gf (v := .int ((ov_up (ov_up (ov_up S 42 0 (0 : Int32)) 61 (((ov_up S 42 0 (0 : Int32)) 42 30)).toNatClampNeg x1) 62 (((ov_up (ov_up S 42 0 (0 : Int32)) 61 (((ov_up S 42 0 (0 : Int32)) 42 30)).toNatClampNeg x1) 42 30)).toNatClampNeg x2) 42 30)) og_215_63 oO_42 rfl ?_
        refine ev_iconst (v := (1 : Int32)) od_215_66 (by decide) ?_
        refine ev_iadd od_215_67 ?_
        refine ev_pf op_215_68 oO_42 rfl rfl ?_
        refine ev_aload_n od_215_71 rfl ?_
        refine ev_gf (v := .int ((ov_up (ov_up (ov_up (ov_up S 42 0 (0 : Int32)) 61 (((ov_up S 42 0 (0 : Int32)) 42 30)).toNatClampNeg x1) 62 (((ov_up (ov_up S 42 0 (0 : Int32)) 61 (((ov_up S 42 0 (0 : Int32)) 42 30)).toNatClampNeg x1) 42 30)).toNatClampNeg x2) 42 30 (((ov_up (ov_up (ov_up S 42 0 (0 : Int32)) 61 (((ov_up S 42 0 (0 : Int32)) 42 30)).toNatClampNeg x1) 62 (((ov_up (ov_up S 42 0 (0 : Int32)) 61 (((ov_up S 42 0 (0 : Int32)) 42 30)).toNatClampNeg x1) 42 30)).toNatClampNeg x2) 42 30) + (1 : Int32))) 42 30)) og_215_72 oO_42 rfl ?_
        cases h
        exact ev_iret od_215_75 rfl hP
      · rw [if_pos hc6] at h
        refine ev_bipush (v := (-4 : Int32)) od_215_38 (by decide) ?_
        cases h
        exact ev_iret od_215_40 rfl hP
    · rw [if_pos hc7] at h
      refine ev_bipush (v := (-2 : Int32)) od_215_26 (by decide) ?_
      cases h
      exact ev_iret od_215_28 rfl hP
  · rw [if_neg hc8] at h
    refine ev_iconst (v := (-1 : Int32)) od_215_12 (by decide) ?_
    cases h
    exact ev_iret od_215_13 rfl hP
theorem R215 {L : Nat} {S : ov_S} {G : ov_L2} {x1 : Int32} {x2 : Int32}  {out : Int32 × ov_S} (h : f215 S x1 x2 = some out) : ov_R L 3 215 [.ref 42, .int x1, .int x2] S G (some (.int out.1)) out.2 G :=
  ov_Rof (t215  h ⟨rfl, rfl, rfl⟩)
-- 217 OEModel.doors
def f217_80_40 (S : ov_S) (x1 : Int32) (x2 : Int32) (x4 : Int32) (s0 : Int32) : Option ((Int32 × Int32) ⊕ (Int32)) :=
  some (.inl (s0, (x4 + (1 : Int32))))
theorem t217_80_40 {L : Nat} {S : ov_S} {G : ov_L2} {x1 : Int32} {x2 : Int32} {x4 : Int32} {s0 : Int32} {P : Option Value → ov_S → ov_L2 → Prop}  {out : (Int32 × Int32) ⊕ (Int32)} (h : f217_80_40 S x1 x2 x4 s0 = some out) (hk : ov_sm (σ := Int32 × Int32) (ε := (Int32)) (fun s => ov_J L 2 217 40 [some (.ref 42), some (.int x1), some (.int x2), some (.int s.1), some (.int s.2)] [] S G P) (fun e => ov_J L 2 217 87 [some (.ref 42), some (.int x1), some (.int x2), some (.int e), none] [] S G P) out) : ov_J L 2 217 80 [some (.ref 42), some (.int x1), some (.int x2), none, some (.int x4)] [.int s0] S G P := by
  unfold f217_80_40 at h
  refine ev_istore_n (lv1 := [some (.ref 42), some (.int x1), some (.int x2), some (.int s0), some (.int x4)]) od_217_80 rfl rfl ?_
  refine ev_iinc (v := (x4 + (1 : Int32))) (lv1 := [some (.ref 42), some (.int x1), some (.int x2), some (.int s0), some (.int (x4 + (1 : Int32)))]) od_217_81 rfl rfl rfl ?_
  refine ev_goto (t := 40) od_217_84 (by decide) ?_
  cases h
  exact hk
def f217_79_40 (S : ov_S) (x1 : Int32) (x2 : Int32) (x4 : Int32) : Option ((Int32 × Int32) ⊕ (Int32)) :=
  f217_80_40 S x1 x2 x4 (0 : Int32)
theorem t217_79_40 {L : Nat} {S : ov_S} {G : ov_L2} {x1 : Int32} {x2 : Int32} {x4 : Int32} {P : Option Value → ov_S → ov_L2 → Prop}  {out : (Int32 × Int32) ⊕ (Int32)} (h : f217_79_40 S x1 x2 x4 = some out) (hk : ov_sm (σ := Int32 × Int32) (ε := (Int32)) (fun s => ov_J L 2 217 40 [some (.ref 42), some (.int x1), some (.int x2), some (.int s.1), some (.int s.2)] [] S G P) (fun e => ov_J L 2 217 87 [some (.ref 42), some (.int x1), some (.int x2), some (.int e), none] [] S G P) out) : ov_J L 2 217 79 [some (.ref 42), some (.int x1), some (.int x2), none, some (.int x4)] [] S G P := by
  unfold f217_79_40 at h
  refine ev_iconst (v := (0 : Int32)) od_217_79 (by decide) ?_
  exact t217_80_40  h hk
def b217_40 (S : ov_S) (x1 : Int32) (x2 : Int32) (x3 : Int32) (x4 : Int32) : Option ((Int32 × Int32) ⊕ (Int32)) :=
  (if (S 42 30) ≤ x4 then some (.inr x3) else (if x3 = 0 then f217_79_40 S x1 x2 x4 else ov_ck (ov_ibb x4 6) (ov_ck (ov_ibb (S 61 (x4).toNatClampNeg) 18) (ov_ck (ov_ibb x4 6) ((if (S 63 ((S 61 (x4).toNatClampNeg)).toNatClampNeg) = (S 62 (x4).toNatClampNeg) then f217_80_40 S x1 x2 x4 (1 : Int32) else f217_79_40 S x1 x2 x4))))))
theorem bt217_40 {L : Nat} {S : ov_S} {G : ov_L2} {x1 : Int32} {x2 : Int32} {x3 : Int32} {x4 : Int32} {P : Option Value → ov_S → ov_L2 → Prop}  {out : (Int32 × Int32) ⊕ (Int32)} (h : b217_40 S x1 x2 x3 x4 = some out) (hk : ov_sm (σ := Int32 × Int32) (ε := (Int32)) (fun s => ov_J L 2 217 40 [some (.ref 42), some (.int x1), some (.int x2), some (.int s.1), some (.int s.2)] [] S G P) (fun e => ov_J L 2 217 87 [some (.ref 42), some (.int x1), some (.int x2), some (.int e), none] [] S G P) out) : ov_J L 2 217 40 [some (.ref 42), some (.int x1), some (.int x2), some (.int x3), some (.int x4)] [] S G P := by
  unfold b217_40 at h
  refine ev_iload od_217_40 rfl ?_
  refine ev_aload_n od_217_42 rfl ?_
  refine ev_gf (v := .int (S 42 30)) og_217_43 oO_42 rfl ?_
  refine ev_icmp_ge (t := 87) od_217_46 (by decide) (fun hc9 => ?_) (fun hc9 => ?_)
  · rw [if_pos hc9] at h
    cases h
    refine ev_fg (lv0 := [some (.ref 42), some (.int x1), some (.int x2), some (.int x3), none]) (ov_le_s (ov_le_s (ov_le_s (ov_le_s (ov_le_n (ov_le_e)))))) ?_
    exact hk
  · rw [if_neg hc9] at h
    refine ev_iload_n od_217_49 rfl ?_
    refine ev_if_eq (t := 79) od_217_50 (by decide) (fun hc8 => ?_) (fun hc8 => ?_)
    · rw [if_pos hc8] at h
      refine ev_fg (lv0 := [some (.ref 42), some (.int x1), some (.int x2), none, some (.int x4)]) (ov_le_s (ov_le_s (ov_le_s (ov_le_n (ov_le_s (ov_le_e)))))) ?_
      exact t217_79_40  h hk
    · rw [if_neg hc8] at h
      refine ev_aload_n od_217_53 rfl ?_
      refine ev_gf (v := .ref 63) og_217_54 oO_42 rfl ?_
      refine ev_aload_n od_217_57 rfl ?_
      refine ev_gf (v := .ref 61) og_217_58 oO_42 rfl ?_
      refine ev_iload od_217_61 rfl ?_
      obtain ⟨bq4, h⟩ := ov_ck_ok h
      refine ev_iald od_217_63 oA_61 (ov_ibk bq4) ?_
      obtain ⟨bq5, h⟩ := ov_ck_ok h
      refine ev_iald od_217_64 oA_63 (ov_ibk bq5) ?_
      refine ev_aload_n od_217_65 rfl ?_
      refine ev_gf (v := .ref 62) og_217_66 oO_42 rfl ?_
      refine ev_iload od_217_69 rfl ?_
      obtain ⟨bq6, h⟩ := ov_ck_ok h
      refine ev_iald od_217_71 oA_62 (ov_ibk bq6) ?_
      refine ev_icmp_ne (t := 79) od_217_72 (by decide) (fun hc7 => ?_) (fun hc7 => ?_)
      · rw [if_neg hc7] at h
        refine ev_fg (lv0 := [some (.ref 42), some (.int x1), some (.int x2), none, some (.int x4)]) (ov_le_s (ov_le_s (ov_le_s (ov_le_n (ov_le_s (ov_le_e)))))) ?_
        exact t217_79_40  h hk
      · rw [if_pos hc7] at h
        refine ev_iconst (v := (1 : Int32)) od_217_75 (by decide) ?_
        refine ev_goto (t := 80) od_217_76 (by decide) ?_
        refine ev_fg (lv0 := [some (.ref 42), some (.int x1), some (.int x2), none, some (.int x4)]) (ov_le_s (ov_le_s (ov_le_s (ov_le_n (ov_le_s (ov_le_e)))))) ?_
        exact t217_80_40  h hk
def f217_99_9 (S : ov_S) (x2 : Int32) (s0 : Int32) (s1 : Int32) : Option ((Int32 × Int32 × ov_S) ⊕ (Int32 × ov_S)) :=
  some (.inl ((s1 ||| s0), (x2 + (1 : Int32)), S))
theorem t217_99_9 {L : Nat} {S : ov_S} {G : ov_L2} {x2 : Int32} {s0 : Int32} {s1 : Int32} {P : Option Value → ov_S → ov_L2 → Prop}  {out : (Int32 × Int32 × ov_S) ⊕ (Int32 × ov_S)} (h : f217_99_9 S x2 s0 s1 = some out) (hk : ov_sm (σ := Int32 × Int32 × ov_S) (ε := (Int32 × ov_S)) (fun s => ov_J L 2 217 9 [some (.ref 42), some (.int s.1), some (.int s.2.1), none, none] [] s.2.2 G P) (fun e => ov_J L 2 217 107 [none, some (.int e.1), none, none, none] [] e.2 G P) out) : ov_J L 2 217 99 [some (.ref 42), none, some (.int x2), none, none] [.int s0, .int s1] S G P := by
  unfold f217_99_9 at h
  refine ev_ior od_217_99 ?_
  refine ev_istore_n (lv1 := [some (.ref 42), some (.int (s1 ||| s0)), some (.int x2), none, none]) od_217_100 rfl rfl ?_
  refine ev_iinc (v := (x2 + (1 : Int32))) (lv1 := [some (.ref 42), some (.int (s1 ||| s0)), some (.int (x2 + (1 : Int32))), none, none]) od_217_101 rfl rfl rfl ?_
  refine ev_goto (t := 9) od_217_104 (by decide) ?_
  cases h
  exact hk
def b217_9 (x1 : Int32) (x2 : Int32) (S : ov_S) : Option ((Int32 × Int32 × ov_S) ⊕ (Int32 × ov_S)) :=
  (if (S 42 4) ≤ x2 then some (.inr (x1, S)) else ov_ck (ov_ibb x2 3) ((f168 55 S).bind fun y2 => (f179 S (S 44 (x2).toNatClampNeg) y2).bind fun y3 => ((ov_lp (fun s => b217_40 y3 x1 x2 s.1 s.2) 2000 ((1 : Int32), (0 : Int32))).bind fun e10 => (if e10 = 0 then f217_99_9 y3 x2 (0 : Int32) x1 else f217_99_9 y3 x2 ((1 : Int32) <<< (x2 &&& 31)) x1))))
theorem bt217_9 {L : Nat} {S : ov_S} {G : ov_L2} {x1 : Int32} {x2 : Int32} {P : Option Value → ov_S → ov_L2 → Prop}  {out : (Int32 × Int32 × ov_S) ⊕ (Int32 × ov_S)} (h : b217_9 x1 x2 S = some out) (hk : ov_sm (σ := Int32 × Int32 × ov_S) (ε := (Int32 × ov_S)) (fun s => ov_J L 2 217 9 [some (.ref 42), some (.int s.1), some (.int s.2.1), none, none] [] s.2.2 G P) (fun e => ov_J L 2 217 107 [none, some (.int e.1), none, none, none] [] e.2 G P) out) : ov_J L 2 217 9 [some (.ref 42), some (.int x1), some (.int x2), none, none] [] S G P := by
  unfold b217_9 at h
  refine ev_iload_n od_217_9 rfl ?_
  refine ev_aload_n od_217_10 rfl ?_
  refine ev_gf (v := .int (S 42 4)) og_217_11 oO_42 rfl ?_
  refine ev_icmp_ge (t := 107) od_217_14 (by decide) (fun hc12 => ?_) (fun hc12 => ?_)
  · rw [if_pos hc12] at h
    cases h
    refine ev_fg (lv0 := [none, some (.int x1), none, none, none]) (ov_le_n (ov_le_s (ov_le_n (ov_le_n (ov_le_n (ov_le_e)))))) ?_
    exact hk
  · rw [if_neg hc12] at h
    refine ev_aload_n od_217_17 rfl ?_
    refine ev_aload_n od_217_18 rfl ?_
    refine ev_gf (v := .ref 44) og_217_19 oO_42 rfl ?_
    refine ev_iload_n od_217_22 rfl ?_
    obtain ⟨bq1, h⟩ := ov_ck_ok h
    refine ev_iald od_217_23 oA_44 (ov_ibk bq1) ?_
    refine ev_aload_n od_217_24 rfl ?_
    refine ev_aload_n od_217_25 rfl ?_
    refine ev_gf (v := .ref 55) og_217_26 oO_42 rfl ?_
    obtain ⟨y2, hy2, h⟩ := ov_bd h
    try dsimp only at h
    refine ev_cvi (y := 168) (n := 1) (a := 42) (c := 8) (as := [.ref 55]) (rest := [.int (S 44 (x2).toNatClampNeg), .ref 42]) (dc := 1) oc_217_29 rfl rfl rfl oO_42 rfl rfl rfl rfl (by decide) (R168 oA_55 hy2) ?_
    obtain ⟨y3, hy3, h⟩ := ov_bd h
    try dsimp only at h
    refine ev_cvv (y := 179) (n := 2) (a := 42) (c := 8) (as := [.int (S 44 (x2).toNatClampNeg), .int y2]) (rest := []) (dc := 2) oc_217_32 rfl rfl rfl oO_42 rfl rfl rfl rfl (by decide) (R179  hy3) ?_
    refine ev_iconst (v := (1 : Int32)) od_217_35 (by decide) ?_
    refine ev_istore_n (lv1 := [some (.ref 42), some (.int x1), some (.int x2), some (.int (1 : Int32)), none]) od_217_36 rfl rfl ?_
    refine ev_iconst (v := (0 : Int32)) od_217_37 (by decide) ?_
    refine ev_istore (lv1 := [some (.ref 42), some (.int x1), some (.int x2), some (.int (1 : Int32)), some (.int (0 : Int32))]) od_217_38 rfl rfl ?_
    obtain ⟨e10, he10, h⟩ := ov_bd h
    try dsimp only at h
    refine ov_lp_S (body := (fun s => b217_40 y3 x1 x2 s.1 s.2)) (head := (fun s => ov_J L 2 217 40 [some (.ref 42), some (.int x1), some (.int x2), some (.int s.1), some (.int s.2)] [] y3 G P)) (exit := (fun e => ov_J L 2 217 87 [some (.ref 42), some (.int x1), some (.int x2), some (.int e), none] [] y3 G P)) (fun s r hb hk => bt217_40  hb hk) 2000 ((1 : Int32), (0 : Int32)) e10 he10 ?_
    show ov_J L 2 217 87 [some (.ref 42), some (.int x1), some (.int x2), some (.int e10), none] [] y3 G P
    refine ev_iload_n od_217_87 rfl ?_
    refine ev_iload_n od_217_88 rfl ?_
    refine ev_if_eq (t := 98) od_217_89 (by decide) (fun hc11 => ?_) (fun hc11 => ?_)
    · rw [if_pos hc11] at h
      refine ev_iconst (v := (0 : Int32)) od_217_98 (by decide) ?_
      refine ev_fg (lv0 := [some (.ref 42), none, some (.int x2), none, none]) (ov_le_s (ov_le_n (ov_le_s (ov_le_n (ov_le_n (ov_le_e)))))) ?_
      exact t217_99_9  h hk
    · rw [if_neg hc11] at h
      refine ev_iconst (v := (1 : Int32)) od_217_92 (by decide) ?_
      refine ev_iload_n od_217_93 rfl ?_
      refine ev_ishl od_217_94 ?_
      refine ev_goto (t := 99) od_217_95 (by decide) ?_
      refine ev_fg (lv0 := [some (.ref 42), none, some (.int x2), none, none]) (ov_le_s (ov_le_n (ov_le_s (ov_le_n (ov_le_n (ov_le_e)))))) ?_
      exact t217_99_9  h hk
def f217 (S : ov_S) : Option (Int32 × ov_S) :=
  ((ov_lp (fun s => b217_9  s.1 s.2.1 s.2.2) 2000 ((0 : Int32), (0 : Int32), (ov_up S 42 0 (0 : Int32)))).bind fun e13 => some (e13.1, e13.2))
theorem t217 {L : Nat} {S : ov_S} {G : ov_L2}  {P : Option Value → ov_S → ov_L2 → Prop}  {out : Int32 × ov_S} (h : f217 S = some out) (hP : P (some (.int out.1)) out.2 G) : ov_J L 2 217 0 [some (.ref 42), none, none, none, none] [] S G P := by
  unfold f217 at h
  refine ev_aload_n od_217_0 rfl ?_
  refine ev_iconst (v := (0 : Int32)) od_217_1 (by decide) ?_
  refine ev_pf op_217_2 oO_42 rfl rfl ?_
  refine ev_iconst (v := (0 : Int32)) od_217_5 (by decide) ?_
  refine ev_istore_n (lv1 := [some (.ref 42), some (.int (0 : Int32)), none, none, none]) od_217_6 rfl rfl ?_
  refine ev_iconst (v := (0 : Int32)) od_217_7 (by decide) ?_
  refine ev_istore_n (lv1 := [some (.ref 42), some (.int (0 : Int32)), some (.int (0 : Int32)), none, none]) od_217_8 rfl rfl ?_
  obtain ⟨e13, he13, h⟩ := ov_bd h
  try dsimp only at h
  refine ov_lp_S (body := (fun s => b217_9  s.1 s.2.1 s.2.2)) (head := (fun s => ov_J L 2 217 9 [some (.ref 42), some (.int s.1), some (.int s.2.1), none, none] [] s.2.2 G P)) (exit := (fun e => ov_J L 2 217 107 [none, some (.int e.1), none, none, none] [] e.2 G P)) (fun s r hb hk => bt217_9  hb hk) 2000 ((0 : Int32), (0 : Int32), (ov_up S 42 0 (0 : Int32))) e13 he13 ?_
  show ov_J L 2 217 107 [none, some (.int e13.1), none, none, none] [] e13.2 G P
  refine ev_iload_n od_217_107 rfl ?_
  cases h
  exact ev_iret od_217_108 rfl hP
theorem R217 {L : Nat} {S : ov_S} {G : ov_L2}   {out : Int32 × ov_S} (h : f217 S = some out) : ov_R L 3 217 [.ref 42] S G (some (.int out.1)) out.2 G :=
  ov_Rof (t217  h ⟨rfl, rfl, rfl⟩)
-- 221 OEModel.gives
def f221_67_38 (S : ov_S) (x1 : Int32) (x2 : Int32) (x3 : Int32) (x5 : Int32) (s0 : Int32) (s1 : Int32) : Option ((Int32 × Int32) ⊕ (Int32)) :=
  some (.inl ((s1 + s0), (x5 + (1 : Int32))))
theorem t221_67_38 {L : Nat} {S : ov_S} {G : ov_L2} {x1 : Int32} {x2 : Int32} {x3 : Int32} {x5 : Int32} {s0 : Int32} {s1 : Int32} {P : Option Value → ov_S → ov_L2 → Prop}  {out : (Int32 × Int32) ⊕ (Int32)} (h : f221_67_38 S x1 x2 x3 x5 s0 s1 = some out) (hk : ov_sm (σ := Int32 × Int32) (ε := (Int32)) (fun s => ov_J L 2 221 38 [some (.ref 42), some (.int x1), some (.int x2), some (.int x3), some (.int s.1), some (.int s.2), none, none] [] S G P) (fun e => ov_J L 2 221 76 [none, some (.int x1), some (.int x2), some (.int x3), some (.int e), none, none, none] [] S G P) out) : ov_J L 2 221 67 [some (.ref 42), some (.int x1), some (.int x2), some (.int x3), none, some (.int x5), none, none] [.int s0, .int s1] S G P := by
  unfold f221_67_38 at h
  refine ev_iadd od_221_67 ?_
  refine ev_istore (lv1 := [some (.ref 42), some (.int x1), some (.int x2), some (.int x3), some (.int (s1 + s0)), some (.int x5), none, none]) od_221_68 rfl rfl ?_
  refine ev_iinc (v := (x5 + (1 : Int32))) (lv1 := [some (.ref 42), some (.int x1), some (.int x2), some (.int x3), some (.int (s1 + s0)), some (.int (x5 + (1 : Int32))), none, none]) od_221_70 rfl rfl rfl ?_
  refine ev_goto (t := 38) od_221_73 (by decide) ?_
  cases h
  exact hk
def b221_38 (S : ov_S) (x1 : Int32) (x2 : Int32) (x3 : Int32) (x4 : Int32) (x5 : Int32) : Option ((Int32 × Int32) ⊕ (Int32)) :=
  (if (6 : Int32) ≤ x5 then some (.inr x4) else (f183 55 S x5).bind fun y5 => (if y5 < (10 : Int32) then f221_67_38 S x1 x2 x3 x5 (0 : Int32) x4 else f221_67_38 S x1 x2 x3 x5 (1 : Int32) x4))
theorem bt221_38 {L : Nat} {S : ov_S} {G : ov_L2} {x1 : Int32} {x2 : Int32} {x3 : Int32} {x4 : Int32} {x5 : Int32} {P : Option Value → ov_S → ov_L2 → Prop}  {out : (Int32 × Int32) ⊕ (Int32)} (h : b221_38 S x1 x2 x3 x4 x5 = some out) (hk : ov_sm (σ := Int32 × Int32) (ε := (Int32)) (fun s => ov_J L 2 221 38 [some (.ref 42), some (.int x1), some (.int x2), some (.int x3), some (.int s.1), some (.int s.2), none, none] [] S G P) (fun e => ov_J L 2 221 76 [none, some (.int x1), some (.int x2), some (.int x3), some (.int e), none, none, none] [] S G P) out) : ov_J L 2 221 38 [some (.ref 42), some (.int x1), some (.int x2), some (.int x3), some (.int x4), some (.int x5), none, none] [] S G P := by
  unfold b221_38 at h
  refine ev_iload od_221_38 rfl ?_
  refine ev_bipush (v := (6 : Int32)) od_221_40 (by decide) ?_
  refine ev_icmp_ge (t := 76) od_221_42 (by decide) (fun hc7 => ?_) (fun hc7 => ?_)
  · rw [if_pos hc7] at h
    cases h
    refine ev_fg (lv0 := [none, some (.int x1), some (.int x2), some (.int x3), some (.int x4), none, none, none]) (ov_le_n (ov_le_s (ov_le_s (ov_le_s (ov_le_s (ov_le_n (ov_le_n (ov_le_n (ov_le_e))))))))) ?_
    exact hk
  · rw [if_neg hc7] at h
    refine ev_iload od_221_45 rfl ?_
    refine ev_aload_n od_221_47 rfl ?_
    refine ev_aload_n od_221_48 rfl ?_
    refine ev_gf (v := .ref 55) og_221_49 oO_42 rfl ?_
    refine ev_iload od_221_52 rfl ?_
    obtain ⟨y5, hy5, h⟩ := ov_bd h
    try dsimp only at h
    refine ev_cvi (y := 183) (n := 2) (a := 42) (c := 8) (as := [.ref 55, .int x5]) (rest := [.int x4]) (dc := 1) oc_221_54 rfl rfl rfl oO_42 rfl rfl rfl rfl (by decide) (R183 oA_55 hy5) ?_
    refine ev_bipush (v := (10 : Int32)) od_221_57 (by decide) ?_
    refine ev_icmp_lt (t := 66) od_221_59 (by decide) (fun hc6 => ?_) (fun hc6 => ?_)
    · rw [if_pos hc6] at h
      refine ev_iconst (v := (0 : Int32)) od_221_66 (by decide) ?_
      refine ev_fg (lv0 := [some (.ref 42), some (.int x1), some (.int x2), some (.int x3), none, some (.int x5), none, none]) (ov_le_s (ov_le_s (ov_le_s (ov_le_s (ov_le_n (ov_le_s (ov_le_n (ov_le_n (ov_le_e))))))))) ?_
      exact t221_67_38  h hk
    · rw [if_neg hc6] at h
      refine ev_iconst (v := (1 : Int32)) od_221_62 (by decide) ?_
      refine ev_goto (t := 67) od_221_63 (by decide) ?_
      refine ev_fg (lv0 := [some (.ref 42), some (.int x1), some (.int x2), some (.int x3), none, some (.int x5), none, none]) (ov_le_s (ov_le_s (ov_le_s (ov_le_s (ov_le_n (ov_le_s (ov_le_n (ov_le_n (ov_le_e))))))))) ?_
      exact t221_67_38  h hk
def f221_132_82 (S : ov_S) (x1 : Int32) (x2 : Int32) (x3 : Int32) (x4 : Int32) (x6 : Int32) (s0 : Int32) (s1 : Int32) : Option ((Int32 × Int32) ⊕ (Int32)) :=
  some (.inl ((s1 + s0), (x6 + (1 : Int32))))
theorem t221_132_82 {L : Nat} {S : ov_S} {G : ov_L2} {x1 : Int32} {x2 : Int32} {x3 : Int32} {x4 : Int32} {x6 : Int32} {s0 : Int32} {s1 : Int32} {P : Option Value → ov_S → ov_L2 → Prop}  {out : (Int32 × Int32) ⊕ (Int32)} (h : f221_132_82 S x1 x2 x3 x4 x6 s0 s1 = some out) (hk : ov_sm (σ := Int32 × Int32) (ε := (Int32)) (fun s => ov_J L 2 221 82 [none, some (.int x1), some (.int x2), some (.int x3), some (.int x4), some (.int s.1), some (.int s.2), none] [] S G P) (fun e => ov_J L 2 221 141 [none, none, none, some (.int x3), some (.int x4), some (.int e), none, none] [] S G P) out) : ov_J L 2 221 132 [none, some (.int x1), some (.int x2), some (.int x3), some (.int x4), none, some (.int x6), none] [.int s0, .int s1] S G P := by
  unfold f221_132_82 at h
  refine ev_iadd od_221_132 ?_
  refine ev_istore (lv1 := [none, some (.int x1), some (.int x2), some (.int x3), some (.int x4), some (.int (s1 + s0)), some (.int x6), none]) od_221_133 rfl rfl ?_
  refine ev_iinc (v := (x6 + (1 : Int32))) (lv1 := [none, some (.int x1), some (.int x2), some (.int x3), some (.int x4), some (.int (s1 + s0)), some (.int (x6 + (1 : Int32))), none]) od_221_135 rfl rfl rfl ?_
  refine ev_goto (t := 82) od_221_138 (by decide) ?_
  cases h
  exact hk
def b221_82 (S : ov_S) (x1 : Int32) (x2 : Int32) (x3 : Int32) (x4 : Int32) (x5 : Int32) (x6 : Int32) : Option ((Int32 × Int32) ⊕ (Int32)) :=
  (if ((1 : Int32) <<< (x4 &&& 31)) ≤ x6 then some (.inr x5) else (f191 x6).bind fun y9 => (if y9 < x1 then f221_132_82 S x1 x2 x3 x4 x6 (0 : Int32) x5 else (f209 (x2).toInt64 y9).bind fun y10 => (f209 (((10 : Int32) - x2)).toInt64 (x4 - y9)).bind fun y11 => f221_132_82 S x1 x2 x3 x4 x6 ((y10 * y11)).toInt32 x5))
theorem bt221_82 {L : Nat} {S : ov_S} {G : ov_L2} {x1 : Int32} {x2 : Int32} {x3 : Int32} {x4 : Int32} {x5 : Int32} {x6 : Int32} {P : Option Value → ov_S → ov_L2 → Prop}  {out : (Int32 × Int32) ⊕ (Int32)} (h : b221_82 S x1 x2 x3 x4 x5 x6 = some out) (hk : ov_sm (σ := Int32 × Int32) (ε := (Int32)) (fun s => ov_J L 2 221 82 [none, some (.int x1), some (.int x2), some (.int x3), some (.int x4), some (.int s.1), some (.int s.2), none] [] S G P) (fun e => ov_J L 2 221 141 [none, none, none, some (.int x3), some (.int x4), some (.int e), none, none] [] S G P) out) : ov_J L 2 221 82 [none, some (.int x1), some (.int x2), some (.int x3), some (.int x4), some (.int x5), some (.int x6), none] [] S G P := by
  unfold b221_82 at h
  refine ev_iload od_221_82 rfl ?_
  refine ev_iconst (v := (1 : Int32)) od_221_84 (by decide) ?_
  refine ev_iload od_221_85 rfl ?_
  refine ev_ishl od_221_87 ?_
  refine ev_icmp_ge (t := 141) od_221_88 (by decide) (fun hc13 => ?_) (fun hc13 => ?_)
  · rw [if_pos hc13] at h
    cases h
    refine ev_fg (lv0 := [none, none, none, some (.int x3), some (.int x4), some (.int x5), none, none]) (ov_le_n (ov_le_n (ov_le_n (ov_le_s (ov_le_s (ov_le_s (ov_le_n (ov_le_n (ov_le_e))))))))) ?_
    exact hk
  · rw [if_neg hc13] at h
    refine ev_iload od_221_91 rfl ?_
    obtain ⟨y9, hy9, h⟩ := ov_bd h
    try dsimp only at h
    refine ev_csi (y := 191) (n := 1) (as := [.int x6]) (rest := []) (dc := 1) oc_221_93 rfl rfl rfl rfl rfl (by decide) (R191  hy9) ?_
    refine ev_istore (lv1 := [none, some (.int x1), some (.int x2), some (.int x3), some (.int x4), some (.int x5), some (.int x6), some (.int y9)]) od_221_96 rfl rfl ?_
    refine ev_iload od_221_98 rfl ?_
    refine ev_iload od_221_100 rfl ?_
    refine ev_iload_n od_221_102 rfl ?_
    refine ev_icmp_lt (t := 131) od_221_103 (by decide) (fun hc12 => ?_) (fun hc12 => ?_)
    · rw [if_pos hc12] at h
      refine ev_iconst (v := (0 : Int32)) od_221_131 (by decide) ?_
      refine ev_fg (lv0 := [none, some (.int x1), some (.int x2), some (.int x3), some (.int x4), none, some (.int x6), none]) (ov_le_n (ov_le_s (ov_le_s (ov_le_s (ov_le_s (ov_le_n (ov_le_s (ov_le_n (ov_le_e))))))))) ?_
      exact t221_132_82  h hk
    · rw [if_neg hc12] at h
      refine ev_iload_n od_221_106 rfl ?_
      refine ev_i2l od_221_107 ?_
      refine ev_iload od_221_108 rfl ?_
      obtain ⟨y10, hy10, h⟩ := ov_bd h
      try dsimp only at h
      refine ev_csl (y := 209) (n := 2) (as := [.long (x2).toInt64, .int y9]) (rest := [.int x5]) (dc := 1) oc_221_110 rfl rfl rfl rfl rfl (by decide) (R209  hy10) ?_
      refine ev_bipush (v := (10 : Int32)) od_221_113 (by decide) ?_
      refine ev_iload_n od_221_115 rfl ?_
      refine ev_isub od_221_116 ?_
      refine ev_i2l od_221_117 ?_
      refine ev_iload od_221_118 rfl ?_
      refine ev_iload od_221_120 rfl ?_
      refine ev_isub od_221_122 ?_
      obtain ⟨y11, hy11, h⟩ := ov_bd h
      try dsimp only at h
      refine ev_csl (y := 209) (n := 2) (as := [.long (((10 : Int32) - x2)).toInt64, .int (x4 - y9)]) (rest := [.long y10, .int x5]) (dc := 1) oc_221_123 rfl rfl rfl rfl rfl (by decide) (R209  hy11) ?_
      refine ev_lmul od_221_126 ?_
      refine ev_l2i od_221_127 ?_
      refine ev_goto (t := 132) od_221_128 (by decide) ?_
      refine ev_fg (lv0 := [none, some (.int x1), some (.int x2), some (.int x3), some (.int x4), none, some (.int x6), none]) (ov_le_n (ov_le_s (ov_le_s (ov_le_s (ov_le_s (ov_le_n (ov_le_s (ov_le_n (ov_le_e))))))))) ?_
      exact t221_132_82  h hk
def f221 (S : ov_S) (x1 : Int32) (x2 : Int32) (x3 : Int32) : Option (Int32 × ov_S) :=
  (f144 (x1).toInt64 (0 : Int64) (6 : Int64)).bind fun y2 => (if y2 = 0 then some ((-2 : Int32), (ov_up S 42 0 (0 : Int32))) else (f144 (x2).toInt64 (0 : Int64) (10 : Int64)).bind fun y4 => (if y4 = 0 then some ((-2 : Int32), (ov_up S 42 0 (0 : Int32))) else ((ov_lp (fun s => b221_38 (ov_up S 42 0 (0 : Int32)) x1 x2 x3 s.1 s.2) 2000 ((0 : Int32), (0 : Int32))).bind fun e8 => ((ov_lp (fun s => b221_82 (ov_up S 42 0 (0 : Int32)) x1 x2 x3 e8 s.1 s.2) 2000 ((0 : Int32), (0 : Int32))).bind fun e14 => (f209 (10 : Int64) e8).bind fun y16 => (f213 e14 (y16).toInt32 x3).bind fun y17 => some (y17, (ov_up S 42 0 (0 : Int32)))))))
theorem t221 {L : Nat} {S : ov_S} {G : ov_L2} {x1 : Int32} {x2 : Int32} {x3 : Int32} {P : Option Value → ov_S → ov_L2 → Prop}  {out : Int32 × ov_S} (h : f221 S x1 x2 x3 = some out) (hP : P (some (.int out.1)) out.2 G) : ov_J L 2 221 0 [some (.ref 42), some (.int x1), some (.int x2), some (.int x3), none, none, none, none] [] S G P := by
  unfold f221 at h
  refine ev_aload_n od_221_0 rfl ?_
  refine ev_iconst (v := (0 : Int32)) od_221_1 (by decide) ?_
  refine ev_pf op_221_2 oO_42 rfl rfl ?_
  refine ev_iload_n od_221_5 rfl ?_
  refine ev_i2l od_221_6 ?_
  refine ev_lconst (v := (0 : Int64)) od_221_7 (by decide) ?_
  obtain ⟨w1, hw1⟩ := ok_221_8
  refine ev_ldc2_w od_221_8 hw1 ?_
  obtain ⟨y2, hy2, h⟩ := ov_bd h
  try dsimp only at h
  refine ev_csi (y := 144) (n := 3) (as := [.long (x1).toInt64, .long (0 : Int64), .long (6 : Int64)]) (rest := []) (dc := 1) oc_221_11 rfl rfl rfl rfl rfl (by decide) (R144  hy2) ?_
  refine ev_if_eq (t := 29) od_221_14 (by decide) (fun hc19 => ?_) (fun hc19 => ?_)
  · rw [if_pos hc19] at h
    refine ev_bipush (v := (-2 : Int32)) od_221_29 (by decide) ?_
    cases h
    exact ev_iret od_221_31 rfl hP
  · rw [if_neg hc19] at h
    refine ev_iload_n od_221_17 rfl ?_
    refine ev_i2l od_221_18 ?_
    refine ev_lconst (v := (0 : Int64)) od_221_19 (by decide) ?_
    obtain ⟨w3, hw3⟩ := ok_221_20
    refine ev_ldc2_w od_221_20 hw3 ?_
    obtain ⟨y4, hy4, h⟩ := ov_bd h
    try dsimp only at h
    refine ev_csi (y := 144) (n := 3) (as := [.long (x2).toInt64, .long (0 : Int64), .long (10 : Int64)]) (rest := []) (dc := 1) oc_221_23 rfl rfl rfl rfl rfl (by decide) (R144  hy4) ?_
    refine ev_if_ne (t := 32) od_221_26 (by decide) (fun hc18 => ?_) (fun hc18 => ?_)
    · rw [if_neg hc18] at h
      refine ev_iconst (v := (0 : Int32)) od_221_32 (by decide) ?_
      refine ev_istore (lv1 := [some (.ref 42), some (.int x1), some (.int x2), some (.int x3), some (.int (0 : Int32)), none, none, none]) od_221_33 rfl rfl ?_
      refine ev_iconst (v := (0 : Int32)) od_221_35 (by decide) ?_
      refine ev_istore (lv1 := [some (.ref 42), some (.int x1), some (.int x2), some (.int x3), some (.int (0 : Int32)), some (.int (0 : Int32)), none, none]) od_221_36 rfl rfl ?_
      obtain ⟨e8, he8, h⟩ := ov_bd h
      try dsimp only at h
      refine ov_lp_S (body := (fun s => b221_38 (ov_up S 42 0 (0 : Int32)) x1 x2 x3 s.1 s.2)) (head := (fun s => ov_J L 2 221 38 [some (.ref 42), some (.int x1), some (.int x2), some (.int x3), some (.int s.1), some (.int s.2), none, none] [] (ov_up S 42 0 (0 : Int32)) G P)) (exit := (fun e => ov_J L 2 221 76 [none, some (.int x1), some (.int x2), some (.int x3), some (.int e), none, none, none] [] (ov_up S 42 0 (0 : Int32)) G P)) (fun s r hb hk => bt221_38  hb hk) 2000 ((0 : Int32), (0 : Int32)) e8 he8 ?_
      show ov_J L 2 221 76 [none, some (.int x1), some (.int x2), some (.int x3), some (.int e8), none, none, none] [] (ov_up S 42 0 (0 : Int32)) G P
      refine ev_iconst (v := (0 : Int32)) od_221_76 (by decide) ?_
      refine ev_istore (lv1 := [none, some (.int x1), some (.int x2), some (.int x3), some (.int e8), some (.int (0 : Int32)), none, none]) od_221_77 rfl rfl ?_
      refine ev_iconst (v := (0 : Int32)) od_221_79 (by decide) ?_
      refine ev_istore (lv1 := [none, some (.int x1), some (.int x2), some (.int x3), some (.int e8), some (.int (0 : Int32)), some (.int (0 : Int32)), none]) od_221_80 rfl rfl ?_
      obtain ⟨e14, he14, h⟩ := ov_bd h
      try dsimp only at h
      refine ov_lp_S (body := (fun s => b221_82 (ov_up S 42 0 (0 : Int32)) x1 x2 x3 e8 s.1 s.2)) (head := (fun s => ov_J L 2 221 82 [none, some (.int x1), some (.int x2), some (.int x3), some (.int e8), some (.int s.1), some (.int s.2), none] [] (ov_up S 42 0 (0 : Int32)) G P)) (exit := (fun e => ov_J L 2 221 141 [none, none, none, some (.int x3), some (.int e8), some (.int e), none, none] [] (ov_up S 42 0 (0 : Int32)) G P)) (fun s r hb hk => bt221_82  hb hk) 2000 ((0 : Int32), (0 : Int32)) e14 he14 ?_
      show ov_J L 2 221 141 [none, none, none, some (.int x3), some (.int e8), some (.int e14), none, none] [] (ov_up S 42 0 (0 : Int32)) G P
      refine ev_iload od_221_141 rfl ?_
      obtain ⟨w15, hw15⟩ := ok_221_143
      refine ev_ldc2_w od_221_143 hw15 ?_
      refine ev_iload od_221_146 rfl ?_
      obtain ⟨y16, hy16, h⟩ := ov_bd h
      try dsimp only at h
      refine ev_csl (y := 209) (n := 2) (as := [.long (10 : Int64), .int e8]) (rest := [.int e14]) (dc := 1) oc_221_148 rfl rfl rfl rfl rfl (by decide) (R209  hy16) ?_
      refine ev_l2i od_221_151 ?_
      refine ev_iload_n od_221_152 rfl ?_
      obtain ⟨y17, hy17, h⟩ := ov_bd h
      try dsimp only at h
      refine ev_csi (y := 213) (n := 3) (as := [.int e14, .int (y16).toInt32, .int x3]) (rest := []) (dc := 2) oc_221_153 rfl rfl rfl rfl rfl (by decide) (R213  hy17) ?_
      cases h
      exact ev_iret od_221_156 rfl hP
    · rw [if_pos hc18] at h
      refine ev_bipush (v := (-2 : Int32)) od_221_29 (by decide) ?_
      cases h
      exact ev_iret od_221_31 rfl hP
theorem R221 {L : Nat} {S : ov_S} {G : ov_L2} {x1 : Int32} {x2 : Int32} {x3 : Int32}  {out : Int32 × ov_S} (h : f221 S x1 x2 x3 = some out) : ov_R L 3 221 [.ref 42, .int x1, .int x2, .int x3] S G (some (.int out.1)) out.2 G :=
  ov_Rof (t221  h ⟨rfl, rfl, rfl⟩)
-- 18 OE$Play.read
def f18_49_18 (a : Nat) (S : ov_S) (x2 : Int32) (x3 : Int32) (s0 : Int32) : Option ((Int32 × ov_S) ⊕ ((ov_S) ⊕ (Int32 × ov_S))) :=
  (f20 S (x2 + (1 : Int32))).bind fun y5 => (f20 S (x2 + (2 : Int32))).bind fun y6 => (f21 a S x3 y5 y6).bind fun y7 => (if s0 ≤ y7.1 then some (.inl ((x2 + s0), y7.2)) else some (.inr (.inr ((x2 + y7.1), y7.2))))
theorem t18_49_18 {L : Nat} {S : ov_S} {G : ov_L2} {a : Nat} {x2 : Int32} {x3 : Int32} {s0 : Int32} {P : Option Value → ov_S → ov_L2 → Prop} (ha : ov_Pl a) {out : (Int32 × ov_S) ⊕ ((ov_S) ⊕ (Int32 × ov_S))} (h : f18_49_18 a S x2 x3 s0 = some out) (hk : ov_sm (σ := Int32 × ov_S) (ε := ((ov_S) ⊕ (Int32 × ov_S))) (fun s => ov_J L 3 18 18 [some (.ref a), some (.ref 2), some (.int s.1), none, none, none] [] s.2 G P) (ov_sm (fun e => ov_J L 3 18 92 [none, none, none, none, none, none] [] e G P) (fun t => P (some (.int t.1)) t.2 G)) out) : ov_J L 3 18 49 [some (.ref a), some (.ref 2), some (.int x2), some (.int x3), none, none] [.int s0] S G P := by
  unfold f18_49_18 at h
  refine ev_istore (lv1 := [some (.ref a), some (.ref 2), some (.int x2), some (.int x3), some (.int s0), none]) od_18_49 rfl rfl ?_
  refine ev_aload_n od_18_51 rfl ?_
  refine ev_iload_n od_18_52 rfl ?_
  refine ev_aload_n od_18_53 rfl ?_
  refine ev_iload_n od_18_54 rfl ?_
  refine ev_iconst (v := (1 : Int32)) od_18_55 (by decide) ?_
  refine ev_iadd od_18_56 ?_
  obtain ⟨y5, hy5, h⟩ := ov_bd h
  try dsimp only at h
  refine ev_cvi (y := 20) (n := 1) (a := 2) (c := 1) (as := [.int (x2 + (1 : Int32))]) (rest := [.int x3, .ref a]) (dc := 1) oc_18_57 rfl rfl rfl oO_2 rfl rfl rfl rfl (by decide) (R20  hy5) ?_
  refine ev_aload_n od_18_60 rfl ?_
  refine ev_iload_n od_18_61 rfl ?_
  refine ev_iconst (v := (2 : Int32)) od_18_62 (by decide) ?_
  refine ev_iadd od_18_63 ?_
  obtain ⟨y6, hy6, h⟩ := ov_bd h
  try dsimp only at h
  refine ev_cvi (y := 20) (n := 1) (a := 2) (c := 1) (as := [.int (x2 + (2 : Int32))]) (rest := [.int y5, .int x3, .ref a]) (dc := 1) oc_18_64 rfl rfl rfl oO_2 rfl rfl rfl rfl (by decide) (R20  hy6) ?_
  obtain ⟨y7, hy7, h⟩ := ov_bd h
  try dsimp only at h
  refine ev_cvi (y := 21) (n := 3) (a := a) (c := 2) (as := [.int x3, .int y5, .int y6]) (rest := []) (dc := 3) oc_18_67 rfl rfl rfl (pl_O ha) rfl rfl rfl rfl (by decide) (R21 ha hy7) ?_
  refine ev_istore (lv1 := [some (.ref a), some (.ref 2), some (.int x2), some (.int x3), some (.int s0), some (.int y7.1)]) od_18_70 rfl rfl ?_
  refine ev_iload od_18_72 rfl ?_
  refine ev_iload od_18_74 rfl ?_
  refine ev_icmp_ge (t := 84) od_18_76 (by decide) (fun hc8 => ?_) (fun hc8 => ?_)
  · rw [if_pos hc8] at h
    refine ev_iload_n od_18_84 rfl ?_
    refine ev_iload od_18_85 rfl ?_
    refine ev_iadd od_18_87 ?_
    refine ev_istore_n (lv1 := [some (.ref a), some (.ref 2), some (.int (x2 + s0)), some (.int x3), some (.int s0), some (.int y7.1)]) od_18_88 rfl rfl ?_
    refine ev_goto (t := 18) od_18_89 (by decide) ?_
    cases h
    refine ev_fg (lv0 := [some (.ref a), some (.ref 2), some (.int (x2 + s0)), none, none, none]) (ov_le_s (ov_le_s (ov_le_s (ov_le_n (ov_le_n (ov_le_n (ov_le_e))))))) ?_
    exact hk
  · rw [if_neg hc8] at h
    refine ev_iload_n od_18_79 rfl ?_
    refine ev_iload od_18_80 rfl ?_
    refine ev_iadd od_18_82 ?_
    cases h
    exact ev_iret od_18_83 rfl hk
def f18_44_18 (a : Nat) (S : ov_S) (x2 : Int32) (x3 : Int32) : Option ((Int32 × ov_S) ⊕ ((ov_S) ⊕ (Int32 × ov_S))) :=
  f18_49_18 a S x2 x3 (2 : Int32)
theorem t18_44_18 {L : Nat} {S : ov_S} {G : ov_L2} {a : Nat} {x2 : Int32} {x3 : Int32} {P : Option Value → ov_S → ov_L2 → Prop} (ha : ov_Pl a) {out : (Int32 × ov_S) ⊕ ((ov_S) ⊕ (Int32 × ov_S))} (h : f18_44_18 a S x2 x3 = some out) (hk : ov_sm (σ := Int32 × ov_S) (ε := ((ov_S) ⊕ (Int32 × ov_S))) (fun s => ov_J L 3 18 18 [some (.ref a), some (.ref 2), some (.int s.1), none, none, none] [] s.2 G P) (ov_sm (fun e => ov_J L 3 18 92 [none, none, none, none, none, none] [] e G P) (fun t => P (some (.int t.1)) t.2 G)) out) : ov_J L 3 18 44 [some (.ref a), some (.ref 2), some (.int x2), some (.int x3), none, none] [] S G P := by
  unfold f18_44_18 at h
  refine ev_iconst (v := (2 : Int32)) od_18_44 (by decide) ?_
  refine ev_goto (t := 49) od_18_45 (by decide) ?_
  exact t18_49_18 ha h hk
def b18_18 (a : Nat) (x2 : Int32) (S : ov_S) : Option ((Int32 × ov_S) ⊕ ((ov_S) ⊕ (Int32 × ov_S))) :=
  (f14 S).bind fun y3 => (if y3 ≤ x2 then some (.inr (.inl S)) else (f20 S x2).bind fun y4 => (if y4 = (68 : Int32) then f18_44_18 a S x2 y4 else (if y4 = (70 : Int32) then f18_44_18 a S x2 y4 else f18_49_18 a S x2 y4 (3 : Int32))))
theorem bt18_18 {L : Nat} {S : ov_S} {G : ov_L2} {a : Nat} {x2 : Int32} {P : Option Value → ov_S → ov_L2 → Prop} (ha : ov_Pl a) {out : (Int32 × ov_S) ⊕ ((ov_S) ⊕ (Int32 × ov_S))} (h : b18_18 a x2 S = some out) (hk : ov_sm (σ := Int32 × ov_S) (ε := ((ov_S) ⊕ (Int32 × ov_S))) (fun s => ov_J L 3 18 18 [some (.ref a), some (.ref 2), some (.int s.1), none, none, none] [] s.2 G P) (ov_sm (fun e => ov_J L 3 18 92 [none, none, none, none, none, none] [] e G P) (fun t => P (some (.int t.1)) t.2 G)) out) : ov_J L 3 18 18 [some (.ref a), some (.ref 2), some (.int x2), none, none, none] [] S G P := by
  unfold b18_18 at h
  refine ev_iload_n od_18_18 rfl ?_
  refine ev_aload_n od_18_19 rfl ?_
  obtain ⟨y3, hy3, h⟩ := ov_bd h
  try dsimp only at h
  refine ev_cvi (y := 14) (n := 0) (a := 2) (c := 1) (as := []) (rest := [.int x2]) (dc := 1) oc_18_20 rfl rfl rfl oO_2 rfl rfl rfl rfl (by decide) (R14  hy3) ?_
  refine ev_icmp_ge (t := 92) od_18_23 (by decide) (fun hc11 => ?_) (fun hc11 => ?_)
  · rw [if_pos hc11] at h
    cases h
    refine ev_fg (lv0 := [none, none, none, none, none, none]) (ov_le_n (ov_le_n (ov_le_n (ov_le_n (ov_le_n (ov_le_n (ov_le_e))))))) ?_
    exact hk
  · rw [if_neg hc11] at h
    refine ev_aload_n od_18_26 rfl ?_
    refine ev_iload_n od_18_27 rfl ?_
    obtain ⟨y4, hy4, h⟩ := ov_bd h
    try dsimp only at h
    refine ev_cvi (y := 20) (n := 1) (a := 2) (c := 1) (as := [.int x2]) (rest := []) (dc := 1) oc_18_28 rfl rfl rfl oO_2 rfl rfl rfl rfl (by decide) (R20  hy4) ?_
    refine ev_istore_n (lv1 := [some (.ref a), some (.ref 2), some (.int x2), some (.int y4), none, none]) od_18_31 rfl rfl ?_
    refine ev_iload_n od_18_32 rfl ?_
    refine ev_bipush (v := (68 : Int32)) od_18_33 (by decide) ?_
    refine ev_icmp_eq (t := 44) od_18_35 (by decide) (fun hc10 => ?_) (fun hc10 => ?_)
    · rw [if_pos hc10] at h
      exact t18_44_18 ha h hk
    · rw [if_neg hc10] at h
      refine ev_iload_n od_18_38 rfl ?_
      refine ev_bipush (v := (70 : Int32)) od_18_39 (by decide) ?_
      refine ev_icmp_ne (t := 48) od_18_41 (by decide) (fun hc9 => ?_) (fun hc9 => ?_)
      · rw [if_neg hc9] at h
        refine ev_iconst (v := (3 : Int32)) od_18_48 (by decide) ?_
        exact t18_49_18 ha h hk
      · rw [if_pos hc9] at h
        exact t18_44_18 ha h hk
def f18 (a : Nat) (S : ov_S) : Option (Int32 × ov_S) :=
  (f19 a S).bind fun y1 => (f20 y1 (0 : Int32)).bind fun y2 => (if y2 = (69 : Int32) then ((ov_lp (fun s => b18_18 a s.1 s.2) 2000 ((1 : Int32), y1)).bind fun e12 => match e12 with | .inl e13 => some ((-9 : Int32), e13) | .inr t => some t) else some ((0 : Int32), y1))
theorem t18 {L : Nat} {S : ov_S} {G : ov_L2} {a : Nat} {P : Option Value → ov_S → ov_L2 → Prop} (ha : ov_Pl a) {out : Int32 × ov_S} (h : f18 a S = some out) (hP : P (some (.int out.1)) out.2 G) : ov_J L 3 18 0 [some (.ref a), some (.ref 2), none, none, none, none] [] S G P := by
  unfold f18 at h
  refine ev_aload_n od_18_0 rfl ?_
  obtain ⟨y1, hy1, h⟩ := ov_bd h
  try dsimp only at h
  refine ev_cvv (y := 19) (n := 0) (a := a) (c := 2) (as := []) (rest := []) (dc := 1) oc_18_1 rfl rfl rfl (pl_O ha) rfl rfl rfl rfl (by decide) (R19 ha hy1) ?_
  refine ev_aload_n od_18_4 rfl ?_
  refine ev_iconst (v := (0 : Int32)) od_18_5 (by decide) ?_
  obtain ⟨y2, hy2, h⟩ := ov_bd h
  try dsimp only at h
  refine ev_cvi (y := 20) (n := 1) (a := 2) (c := 1) (as := [.int (0 : Int32)]) (rest := []) (dc := 1) oc_18_6 rfl rfl rfl oO_2 rfl rfl rfl rfl (by decide) (R20  hy2) ?_
  refine ev_bipush (v := (69 : Int32)) od_18_9 (by decide) ?_
  refine ev_icmp_eq (t := 16) od_18_11 (by decide) (fun hc14 => ?_) (fun hc14 => ?_)
  · rw [if_pos hc14] at h
    refine ev_iconst (v := (1 : Int32)) od_18_16 (by decide) ?_
    refine ev_istore_n (lv1 := [some (.ref a), some (.ref 2), some (.int (1 : Int32)), none, none, none]) od_18_17 rfl rfl ?_
    obtain ⟨e12, he12, h⟩ := ov_bd h
    try dsimp only at h
    refine ov_lp_S (body := (fun s => b18_18 a s.1 s.2)) (head := (fun s => ov_J L 3 18 18 [some (.ref a), some (.ref 2), some (.int s.1), none, none, none] [] s.2 G P)) (exit := (ov_sm (fun e => ov_J L 3 18 92 [none, none, none, none, none, none] [] e G P) (fun t => P (some (.int t.1)) t.2 G))) (fun s r hb hk => bt18_18 ha hb hk) 2000 ((1 : Int32), y1) e12 he12 ?_
    rcases e12 with e13 | t
    · try dsimp only at h
      show ov_J L 3 18 92 [none, none, none, none, none, none] [] e13 G P
      refine ev_bipush (v := (-9 : Int32)) od_18_92 (by decide) ?_
      cases h
      exact ev_iret od_18_94 rfl hP
    · cases h
      exact hP
  · rw [if_neg hc14] at h
    refine ev_iconst (v := (0 : Int32)) od_18_14 (by decide) ?_
    cases h
    exact ev_iret od_18_15 rfl hP
theorem R18 {L : Nat} {S : ov_S} {G : ov_L2} {a : Nat} (ha : ov_Pl a) {out : Int32 × ov_S} (h : f18 a S = some out) : ov_R L 4 18 [.ref a, .ref 2] S G (some (.int out.1)) out.2 G :=
  ov_Rof (t18 ha h ⟨rfl, rfl, rfl⟩)
