-- 182 OEModel.load
def f182 (S : ov_S) (x1 : Int32) : Option (Int32 × ov_S) :=
  (f144 (x1).toInt64 (0 : Int64) (5 : Int64)).bind fun y2 => (if y2 = 0 then some ((-2 : Int32), (ov_up S 42 0 (0 : Int32))) else (f183 55 (ov_up S 42 0 (0 : Int32)) x1).bind fun y3 => some (y3, (ov_up S 42 0 (0 : Int32))))
theorem t182 {L : Nat} {S : ov_S} {G : ov_L2} {x1 : Int32} {P : Option Value → ov_S → ov_L2 → Prop}  {out : Int32 × ov_S} (h : f182 S x1 = some out) (hP : P (some (.int out.1)) out.2 G) : ov_J L 1 182 0 [some (.ref 42), some (.int x1)] [] S G P := by
  unfold f182 at h
  refine ev_aload_n od_182_0 rfl ?_
  refine ev_iconst (v := (0 : Int32)) od_182_1 (by decide) ?_
  refine ev_pf op_182_2 oO_42 rfl rfl ?_
  refine ev_iload_n od_182_5 rfl ?_
  refine ev_i2l od_182_6 ?_
  refine ev_lconst (v := (0 : Int64)) od_182_7 (by decide) ?_
  obtain ⟨w1, hw1⟩ := ok_182_8
  refine ev_ldc2_w od_182_8 hw1 ?_
  obtain ⟨y2, hy2, h⟩ := ov_bd h
  try dsimp only at h
  refine ev_csi (y := 144) (n := 3) (as := [.long (x1).toInt64, .long (0 : Int64), .long (5 : Int64)]) (rest := []) (dc := 1) oc_182_11 rfl rfl rfl rfl rfl (by decide) (R144  hy2) ?_
  refine ev_if_eq (t := 29) od_182_14 (by decide) (fun hc4 => ?_) (fun hc4 => ?_)
  · rw [if_pos hc4] at h
    refine ev_bipush (v := (-2 : Int32)) od_182_29 (by decide) ?_
    cases h
    exact ev_iret od_182_31 rfl hP
  · rw [if_neg hc4] at h
    refine ev_aload_n od_182_17 rfl ?_
    refine ev_aload_n od_182_18 rfl ?_
    refine ev_gf (v := .ref 55) og_182_19 oO_42 rfl ?_
    refine ev_iload_n od_182_22 rfl ?_
    obtain ⟨y3, hy3, h⟩ := ov_bd h
    try dsimp only at h
    refine ev_cvi (y := 183) (n := 2) (a := 42) (c := 8) (as := [.ref 55, .int x1]) (rest := []) (dc := 1) oc_182_23 rfl rfl rfl oO_42 rfl rfl rfl rfl (by decide) (R183 oA_55 hy3) ?_
    refine ev_goto (t := 31) od_182_26 (by decide) ?_
    cases h
    exact ev_iret od_182_31 rfl hP
theorem R182 {L : Nat} {S : ov_S} {G : ov_L2} {x1 : Int32}  {out : Int32 × ov_S} (h : f182 S x1 = some out) : ov_R L 2 182 [.ref 42, .int x1] S G (some (.int out.1)) out.2 G :=
  ov_Rof (t182  h ⟨rfl, rfl, rfl⟩)
-- 193 OEModel.noCell
def f193 (x0 : Int32) : Option (Int32) :=
  (f144 (x0).toInt64 (0 : Int64) (17 : Int64)).bind fun y2 => (if y2 = 0 then some (1 : Int32) else some (0 : Int32))
theorem t193 {L : Nat} {S : ov_S} {G : ov_L2} {x0 : Int32} {P : Option Value → ov_S → ov_L2 → Prop}  {out : Int32} (h : f193 x0 = some out) (hP : P (some (.int out)) S G) : ov_J L 1 193 0 [some (.int x0)] [] S G P := by
  unfold f193 at h
  refine ev_iload_n od_193_0 rfl ?_
  refine ev_i2l od_193_1 ?_
  refine ev_lconst (v := (0 : Int64)) od_193_2 (by decide) ?_
  obtain ⟨w1, hw1⟩ := ok_193_3
  refine ev_ldc2_w od_193_3 hw1 ?_
  obtain ⟨y2, hy2, h⟩ := ov_bd h
  try dsimp only at h
  refine ev_csi (y := 144) (n := 3) (as := [.long (x0).toInt64, .long (0 : Int64), .long (17 : Int64)]) (rest := []) (dc := 1) oc_193_6 rfl rfl rfl rfl rfl (by decide) (R144  hy2) ?_
  refine ev_if_ne (t := 16) od_193_9 (by decide) (fun hc3 => ?_) (fun hc3 => ?_)
  · rw [if_neg hc3] at h
    refine ev_iconst (v := (0 : Int32)) od_193_16 (by decide) ?_
    cases h
    exact ev_zret od_193_17 rfl (by decide) hP
  · rw [if_pos hc3] at h
    refine ev_iconst (v := (1 : Int32)) od_193_12 (by decide) ?_
    refine ev_goto (t := 17) od_193_13 (by decide) ?_
    cases h
    exact ev_zret od_193_17 rfl (by decide) hP
theorem R193 {L : Nat} {S : ov_S} {G : ov_L2} {x0 : Int32}  {out : Int32} (h : f193 x0 = some out) : ov_R L 2 193 [.int x0] S G (some (.int out)) S G :=
  ov_Rof (t193  h ⟨rfl, rfl, rfl⟩)
-- 213 OEModel.fraction
def f213 (x0 : Int32) (x1 : Int32) (x2 : Int32) : Option (Int32) :=
  (f214 x0 x1).bind fun y1 => (if x2 = 0 then ov_ck (ov_nz y1) (some (x1 / y1)) else ov_ck (ov_nz y1) (some (x0 / y1)))
theorem t213 {L : Nat} {S : ov_S} {G : ov_L2} {x0 : Int32} {x1 : Int32} {x2 : Int32} {P : Option Value → ov_S → ov_L2 → Prop}  {out : Int32} (h : f213 x0 x1 x2 = some out) (hP : P (some (.int out)) S G) : ov_J L 1 213 0 [some (.int x0), some (.int x1), some (.int x2), none] [] S G P := by
  unfold f213 at h
  refine ev_iload_n od_213_0 rfl ?_
  refine ev_iload_n od_213_1 rfl ?_
  obtain ⟨y1, hy1, h⟩ := ov_bd h
  try dsimp only at h
  refine ev_csi (y := 214) (n := 2) (as := [.int x0, .int x1]) (rest := []) (dc := 1) oc_213_2 rfl rfl rfl rfl rfl (by decide) (R214  hy1) ?_
  refine ev_istore_n (lv1 := [some (.int x0), some (.int x1), some (.int x2), some (.int y1)]) od_213_5 rfl rfl ?_
  refine ev_iload_n od_213_6 rfl ?_
  refine ev_if_eq (t := 16) od_213_7 (by decide) (fun hc4 => ?_) (fun hc4 => ?_)
  · rw [if_pos hc4] at h
    refine ev_iload_n od_213_16 rfl ?_
    refine ev_iload_n od_213_17 rfl ?_
    obtain ⟨bq2, h⟩ := ov_ck_ok h
    refine ev_idiv od_213_18 (ov_nzk bq2) ?_
    cases h
    exact ev_iret od_213_19 rfl hP
  · rw [if_neg hc4] at h
    refine ev_iload_n od_213_10 rfl ?_
    refine ev_iload_n od_213_11 rfl ?_
    obtain ⟨bq3, h⟩ := ov_ck_ok h
    refine ev_idiv od_213_12 (ov_nzk bq3) ?_
    refine ev_goto (t := 19) od_213_13 (by decide) ?_
    cases h
    exact ev_iret od_213_19 rfl hP
theorem R213 {L : Nat} {S : ov_S} {G : ov_L2} {x0 : Int32} {x1 : Int32} {x2 : Int32}  {out : Int32} (h : f213 x0 x1 x2 = some out) : ov_R L 2 213 [.int x0, .int x1, .int x2] S G (some (.int out)) S G :=
  ov_Rof (t213  h ⟨rfl, rfl, rfl⟩)
-- 220 OEModel.gainOf
def f220 (S : ov_S) (x1 : Int32) (x2 : Int32) : Option (Int32) :=
  (if x2 = (-9 : Int32) then some (0 : Int32) else (f162 56 S x1).bind fun y1 => (if y1 = 0 then some (1 : Int32) else some ((9 : Int32) - x2)))
theorem t220 {L : Nat} {S : ov_S} {G : ov_L2} {x1 : Int32} {x2 : Int32} {P : Option Value → ov_S → ov_L2 → Prop}  {out : Int32} (h : f220 S x1 x2 = some out) (hP : P (some (.int out)) S G) : ov_J L 1 220 0 [some (.ref 42), some (.int x1), some (.int x2)] [] S G P := by
  unfold f220 at h
  refine ev_iload_n od_220_0 rfl ?_
  refine ev_bipush (v := (-9 : Int32)) od_220_1 (by decide) ?_
  refine ev_icmp_ne (t := 8) od_220_3 (by decide) (fun hc3 => ?_) (fun hc3 => ?_)
  · rw [if_neg hc3] at h
    refine ev_aload_n od_220_8 rfl ?_
    refine ev_aload_n od_220_9 rfl ?_
    refine ev_gf (v := .ref 56) og_220_10 oO_42 rfl ?_
    refine ev_iload_n od_220_13 rfl ?_
    obtain ⟨y1, hy1, h⟩ := ov_bd h
    try dsimp only at h
    refine ev_cvi (y := 162) (n := 2) (a := 42) (c := 8) (as := [.ref 56, .int x1]) (rest := []) (dc := 1) oc_220_14 rfl rfl rfl oO_42 rfl rfl rfl rfl (by decide) (R162 oA_56 hy1) ?_
    refine ev_if_eq (t := 27) od_220_17 (by decide) (fun hc2 => ?_) (fun hc2 => ?_)
    · rw [if_pos hc2] at h
      refine ev_iconst (v := (1 : Int32)) od_220_27 (by decide) ?_
      cases h
      exact ev_iret od_220_28 rfl hP
    · rw [if_neg hc2] at h
      refine ev_bipush (v := (9 : Int32)) od_220_20 (by decide) ?_
      refine ev_iload_n od_220_22 rfl ?_
      refine ev_isub od_220_23 ?_
      refine ev_goto (t := 28) od_220_24 (by decide) ?_
      cases h
      exact ev_iret od_220_28 rfl hP
  · rw [if_pos hc3] at h
    refine ev_iconst (v := (0 : Int32)) od_220_6 (by decide) ?_
    cases h
    exact ev_iret od_220_7 rfl hP
theorem R220 {L : Nat} {S : ov_S} {G : ov_L2} {x1 : Int32} {x2 : Int32}  {out : Int32} (h : f220 S x1 x2 = some out) : ov_R L 2 220 [.ref 42, .int x1, .int x2] S G (some (.int out)) S G :=
  ov_Rof (t220  h ⟨rfl, rfl, rfl⟩)
-- 224 OEModel.keep
def b224_26 (x1 : Int32) (x2 : Int32) (S : ov_S) : Option ((Int32 × ov_S) ⊕ (ov_S)) :=
  (if (12 : Int32) ≤ x2 then some (.inr S) else ov_ck (ov_ibb x2 12) (ov_ck (ov_ibb (((12 : Int32) * x1) + x2) 24) (some (.inl ((x2 + (1 : Int32)), (ov_up S 59 ((((12 : Int32) * x1) + x2)).toNatClampNeg (S 55 (x2).toNatClampNeg)))))))
theorem bt224_26 {L : Nat} {S : ov_S} {G : ov_L2} {x1 : Int32} {x2 : Int32} {P : Option Value → ov_S → ov_L2 → Prop}  {out : (Int32 × ov_S) ⊕ (ov_S)} (h : b224_26 x1 x2 S = some out) (hk : ov_sm (σ := Int32 × ov_S) (ε := (ov_S)) (fun s => ov_J L 1 224 26 [some (.ref 42), some (.int x1), some (.int s.1)] [] s.2 G P) (fun e => ov_J L 1 224 55 [some (.ref 42), none, none] [] e G P) out) : ov_J L 1 224 26 [some (.ref 42), some (.int x1), some (.int x2)] [] S G P := by
  unfold b224_26 at h
  refine ev_iload_n od_224_26 rfl ?_
  refine ev_bipush (v := (12 : Int32)) od_224_27 (by decide) ?_
  refine ev_icmp_ge (t := 55) od_224_29 (by decide) (fun hc5 => ?_) (fun hc5 => ?_)
  · rw [if_pos hc5] at h
    cases h
    refine ev_fg (lv0 := [some (.ref 42), none, none]) (ov_le_s (ov_le_n (ov_le_n (ov_le_e)))) ?_
    exact hk
  · rw [if_neg hc5] at h
    refine ev_aload_n od_224_32 rfl ?_
    refine ev_gf (v := .ref 59) og_224_33 oO_42 rfl ?_
    refine ev_bipush (v := (12 : Int32)) od_224_36 (by decide) ?_
    refine ev_iload_n od_224_38 rfl ?_
    refine ev_imul od_224_39 ?_
    refine ev_iload_n od_224_40 rfl ?_
    refine ev_iadd od_224_41 ?_
    refine ev_aload_n od_224_42 rfl ?_
    refine ev_gf (v := .ref 55) og_224_43 oO_42 rfl ?_
    refine ev_iload_n od_224_46 rfl ?_
    obtain ⟨bq3, h⟩ := ov_ck_ok h
    refine ev_iald od_224_47 oA_55 (ov_ibk bq3) ?_
    obtain ⟨bq4, h⟩ := ov_ck_ok h
    refine ev_iast od_224_48 oA_59 (ov_ibk bq4) ?_
    refine ev_iinc (v := (x2 + (1 : Int32))) (lv1 := [some (.ref 42), some (.int x1), some (.int (x2 + (1 : Int32)))]) od_224_49 rfl rfl rfl ?_
    refine ev_goto (t := 26) od_224_52 (by decide) ?_
    cases h
    exact hk
def f224 (S : ov_S) (x1 : Int32) : Option (Int32 × ov_S) :=
  (f144 (x1).toInt64 (0 : Int64) (1 : Int64)).bind fun y1 => (if y1 = 0 then some ((-1 : Int32), (ov_up S 42 0 (0 : Int32))) else ov_ck (ov_ibb x1 2) (((ov_lp (fun s => b224_26 x1 s.1 s.2) 2000 ((0 : Int32), (ov_up (ov_up S 42 0 (0 : Int32)) 60 (x1).toNatClampNeg (1 : Int32)))).bind fun e6 => some ((e6 55 ((11 : Int32)).toNatClampNeg), e6))))
theorem t224 {L : Nat} {S : ov_S} {G : ov_L2} {x1 : Int32} {P : Option Value → ov_S → ov_L2 → Prop}  {out : Int32 × ov_S} (h : f224 S x1 = some out) (hP : P (some (.int out.1)) out.2 G) : ov_J L 1 224 0 [some (.ref 42), some (.int x1), none] [] S G P := by
  unfold f224 at h
  refine ev_aload_n od_224_0 rfl ?_
  refine ev_iconst (v := (0 : Int32)) od_224_1 (by decide) ?_
  refine ev_pf op_224_2 oO_42 rfl rfl ?_
  refine ev_iload_n od_224_5 rfl ?_
  refine ev_i2l od_224_6 ?_
  refine ev_lconst (v := (0 : Int64)) od_224_7 (by decide) ?_
  refine ev_lconst (v := (1 : Int64)) od_224_8 (by decide) ?_
  obtain ⟨y1, hy1, h⟩ := ov_bd h
  try dsimp only at h
  refine ev_csi (y := 144) (n := 3) (as := [.long (x1).toInt64, .long (0 : Int64), .long (1 : Int64)]) (rest := []) (dc := 1) oc_224_9 rfl rfl rfl rfl rfl (by decide) (R144  hy1) ?_
  refine ev_if_ne (t := 17) od_224_12 (by decide) (fun hc7 => ?_) (fun hc7 => ?_)
  · rw [if_neg hc7] at h
    refine ev_aload_n od_224_17 rfl ?_
    refine ev_gf (v := .ref 60) og_224_18 oO_42 rfl ?_
    refine ev_iload_n od_224_21 rfl ?_
    refine ev_iconst (v := (1 : Int32)) od_224_22 (by decide) ?_
    obtain ⟨bq2, h⟩ := ov_ck_ok h
    refine ev_bast (y := (1 : Int32)) od_224_23 oA_60 (ov_ibk bq2) rfl ?_
    refine ev_iconst (v := (0 : Int32)) od_224_24 (by decide) ?_
    refine ev_istore_n (lv1 := [some (.ref 42), some (.int x1), some (.int (0 : Int32))]) od_224_25 rfl rfl ?_
    obtain ⟨e6, he6, h⟩ := ov_bd h
    try dsimp only at h
    refine ov_lp_S (body := (fun s => b224_26 x1 s.1 s.2)) (head := (fun s => ov_J L 1 224 26 [some (.ref 42), some (.int x1), some (.int s.1)] [] s.2 G P)) (exit := (fun e => ov_J L 1 224 55 [some (.ref 42), none, none] [] e G P)) (fun s r hb hk => bt224_26  hb hk) 2000 ((0 : Int32), (ov_up (ov_up S 42 0 (0 : Int32)) 60 (x1).toNatClampNeg (1 : Int32))) e6 he6 ?_
    show ov_J L 1 224 55 [some (.ref 42), none, none] [] e6 G P
    refine ev_aload_n od_224_55 rfl ?_
    refine ev_gf (v := .ref 55) og_224_56 oO_42 rfl ?_
    refine ev_bipush (v := (11 : Int32)) od_224_59 (by decide) ?_
    refine ev_iald od_224_61 oA_55 (ov_ibk (by decide)) ?_
    cases h
    exact ev_iret od_224_62 rfl hP
  · rw [if_pos hc7] at h
    refine ev_iconst (v := (-1 : Int32)) od_224_15 (by decide) ?_
    cases h
    exact ev_iret od_224_16 rfl hP
theorem R224 {L : Nat} {S : ov_S} {G : ov_L2} {x1 : Int32}  {out : Int32 × ov_S} (h : f224 S x1 = some out) : ov_R L 2 224 [.ref 42, .int x1] S G (some (.int out.1)) out.2 G :=
  ov_Rof (t224  h ⟨rfl, rfl, rfl⟩)
-- 225 OEModel.again
def b225_31 (x1 : Int32) (x2 : Int32) (S : ov_S) : Option ((Int32 × ov_S) ⊕ (ov_S)) :=
  (if (12 : Int32) ≤ x2 then some (.inr S) else ov_ck (ov_ibb (((12 : Int32) * x1) + x2) 24) (ov_ck (ov_ibb x2 12) (some (.inl ((x2 + (1 : Int32)), (ov_up S 55 (x2).toNatClampNeg (S 59 ((((12 : Int32) * x1) + x2)).toNatClampNeg)))))))
theorem bt225_31 {L : Nat} {S : ov_S} {G : ov_L2} {x1 : Int32} {x2 : Int32} {P : Option Value → ov_S → ov_L2 → Prop}  {out : (Int32 × ov_S) ⊕ (ov_S)} (h : b225_31 x1 x2 S = some out) (hk : ov_sm (σ := Int32 × ov_S) (ε := (ov_S)) (fun s => ov_J L 1 225 31 [some (.ref 42), some (.int x1), some (.int s.1)] [] s.2 G P) (fun e => ov_J L 1 225 60 [some (.ref 42), none, none] [] e G P) out) : ov_J L 1 225 31 [some (.ref 42), some (.int x1), some (.int x2)] [] S G P := by
  unfold b225_31 at h
  refine ev_iload_n od_225_31 rfl ?_
  refine ev_bipush (v := (12 : Int32)) od_225_32 (by decide) ?_
  refine ev_icmp_ge (t := 60) od_225_34 (by decide) (fun hc5 => ?_) (fun hc5 => ?_)
  · rw [if_pos hc5] at h
    cases h
    refine ev_fg (lv0 := [some (.ref 42), none, none]) (ov_le_s (ov_le_n (ov_le_n (ov_le_e)))) ?_
    exact hk
  · rw [if_neg hc5] at h
    refine ev_aload_n od_225_37 rfl ?_
    refine ev_gf (v := .ref 55) og_225_38 oO_42 rfl ?_
    refine ev_iload_n od_225_41 rfl ?_
    refine ev_aload_n od_225_42 rfl ?_
    refine ev_gf (v := .ref 59) og_225_43 oO_42 rfl ?_
    refine ev_bipush (v := (12 : Int32)) od_225_46 (by decide) ?_
    refine ev_iload_n od_225_48 rfl ?_
    refine ev_imul od_225_49 ?_
    refine ev_iload_n od_225_50 rfl ?_
    refine ev_iadd od_225_51 ?_
    obtain ⟨bq3, h⟩ := ov_ck_ok h
    refine ev_iald od_225_52 oA_59 (ov_ibk bq3) ?_
    obtain ⟨bq4, h⟩ := ov_ck_ok h
    refine ev_iast od_225_53 oA_55 (ov_ibk bq4) ?_
    refine ev_iinc (v := (x2 + (1 : Int32))) (lv1 := [some (.ref 42), some (.int x1), some (.int (x2 + (1 : Int32)))]) od_225_54 rfl rfl rfl ?_
    refine ev_goto (t := 31) od_225_57 (by decide) ?_
    cases h
    exact hk
def f225 (S : ov_S) (x1 : Int32) : Option (Int32 × ov_S) :=
  (f144 (x1).toInt64 (0 : Int64) (1 : Int64)).bind fun y1 => (if y1 = 0 then some ((-1 : Int32), (ov_up S 42 0 (0 : Int32))) else ov_ck (ov_ibb x1 2) ((if ((ov_up S 42 0 (0 : Int32)) 60 (x1).toNatClampNeg) = 0 then some ((-3 : Int32), (ov_up S 42 0 (0 : Int32))) else ((ov_lp (fun s => b225_31 x1 s.1 s.2) 2000 ((0 : Int32), (ov_up S 42 0 (0 : Int32)))).bind fun e6 => some (((ov_up e6 42 27 (0 : Int32)) 55 ((11 : Int32)).toNatClampNeg), (ov_up e6 42 27 (0 : Int32)))))))
theorem t225 {L : Nat} {S : ov_S} {G : ov_L2} {x1 : Int32} {P : Option Value → ov_S → ov_L2 → Prop}  {out : Int32 × ov_S} (h : f225 S x1 = some out) (hP : P (some (.int out.1)) out.2 G) : ov_J L 1 225 0 [some (.ref 42), some (.int x1), none] [] S G P := by
  unfold f225 at h
  refine ev_aload_n od_225_0 rfl ?_
  refine ev_iconst (v := (0 : Int32)) od_225_1 (by decide) ?_
  refine ev_pf op_225_2 oO_42 rfl rfl ?_
  refine ev_iload_n od_225_5 rfl ?_
  refine ev_i2l od_225_6 ?_
  refine ev_lconst (v := (0 : Int64)) od_225_7 (by decide) ?_
  refine ev_lconst (v := (1 : Int64)) od_225_8 (by decide) ?_
  obtain ⟨y1, hy1, h⟩ := ov_bd h
  try dsimp only at h
  refine ev_csi (y := 144) (n := 3) (as := [.long (x1).toInt64, .long (0 : Int64), .long (1 : Int64)]) (rest := []) (dc := 1) oc_225_9 rfl rfl rfl rfl rfl (by decide) (R144  hy1) ?_
  refine ev_if_ne (t := 17) od_225_12 (by decide) (fun hc8 => ?_) (fun hc8 => ?_)
  · rw [if_neg hc8] at h
    refine ev_aload_n od_225_17 rfl ?_
    refine ev_gf (v := .ref 60) og_225_18 oO_42 rfl ?_
    refine ev_iload_n od_225_21 rfl ?_
    obtain ⟨bq2, h⟩ := ov_ck_ok h
    refine ev_bald od_225_22 oA_60 (ov_ibk bq2) ?_
    refine ev_if_ne (t := 29) od_225_23 (by decide) (fun hc7 => ?_) (fun hc7 => ?_)
    · rw [if_neg hc7] at h
      refine ev_iconst (v := (0 : Int32)) od_225_29 (by decide) ?_
      refine ev_istore_n (lv1 := [some (.ref 42), some (.int x1), some (.int (0 : Int32))]) od_225_30 rfl rfl ?_
      obtain ⟨e6, he6, h⟩ := ov_bd h
      try dsimp only at h
      refine ov_lp_S (body := (fun s => b225_31 x1 s.1 s.2)) (head := (fun s => ov_J L 1 225 31 [some (.ref 42), some (.int x1), some (.int s.1)] [] s.2 G P)) (exit := (fun e => ov_J L 1 225 60 [some (.ref 42), none, none] [] e G P)) (fun s r hb hk => bt225_31  hb hk) 2000 ((0 : Int32), (ov_up S 42 0 (0 : Int32))) e6 he6 ?_
      show ov_J L 1 225 60 [some (.ref 42), none, none] [] e6 G P
      refine ev_aload_n od_225_60 rfl ?_
      refine ev_iconst (v := (0 : Int32)) od_225_61 (by decide) ?_
      refine ev_pf op_225_62 oO_42 rfl rfl ?_
      refine ev_aload_n od_225_65 rfl ?_
      refine ev_gf (v := .ref 55) og_225_66 oO_42 rfl ?_
      refine ev_bipush (v := (11 : Int32)) od_225_69 (by decide) ?_
      refine ev_iald od_225_71 oA_55 (ov_ibk (by decide)) ?_
      cases h
      exact ev_iret od_225_72 rfl hP
    · rw [if_pos hc7] at h
      refine ev_bipush (v := (-3 : Int32)) od_225_26 (by decide) ?_
      cases h
      exact ev_iret od_225_28 rfl hP
  · rw [if_pos hc8] at h
    refine ev_iconst (v := (-1 : Int32)) od_225_15 (by decide) ?_
    cases h
    exact ev_iret od_225_16 rfl hP
theorem R225 {L : Nat} {S : ov_S} {G : ov_L2} {x1 : Int32}  {out : Int32 × ov_S} (h : f225 S x1 = some out) : ov_R L 2 225 [.ref 42, .int x1] S G (some (.int out.1)) out.2 G :=
  ov_Rof (t225  h ⟨rfl, rfl, rfl⟩)
-- 5 OE$Stage.setUp
def b5_2 (a : Nat) (x1 : Int32) (S : ov_S) : Option ((Int32 × ov_S) ⊕ (ov_S)) :=
  (if (6 : Int32) ≤ x1 then some (.inr S) else ov_ck (ov_ibb x1 6) (some (.inl ((x1 + (1 : Int32)), (ov_up S (a + 1) (x1).toNatClampNeg (-9 : Int32))))))
theorem bt5_2 {L : Nat} {S : ov_S} {G : ov_L2} {a : Nat} {x1 : Int32} {P : Option Value → ov_S → ov_L2 → Prop} (ha : ov_St a) {out : (Int32 × ov_S) ⊕ (ov_S)} (h : b5_2 a x1 S = some out) (hk : ov_sm (σ := Int32 × ov_S) (ε := (ov_S)) (fun s => ov_J L 2 5 2 [some (.ref a), some (.int s.1)] [] s.2 G P) (fun e => ov_J L 2 5 22 [some (.ref a), none] [] e G P) out) : ov_J L 2 5 2 [some (.ref a), some (.int x1)] [] S G P := by
  unfold b5_2 at h
  refine ev_iload_n od_5_2 rfl ?_
  refine ev_bipush (v := (6 : Int32)) od_5_3 (by decide) ?_
  refine ev_icmp_ge (t := 22) od_5_5 (by decide) (fun hc2 => ?_) (fun hc2 => ?_)
  · rw [if_pos hc2] at h
    cases h
    refine ev_fg (lv0 := [some (.ref a), none]) (ov_le_s (ov_le_n (ov_le_e))) ?_
    exact hk
  · rw [if_neg hc2] at h
    refine ev_aload_n od_5_8 rfl ?_
    refine ev_gf (v := .ref (a + 1)) og_5_9 (st_O ha) (st_v1 ha) ?_
    refine ev_iload_n od_5_12 rfl ?_
    refine ev_bipush (v := (-9 : Int32)) od_5_13 (by decide) ?_
    obtain ⟨bq1, h⟩ := ov_ck_ok h
    refine ev_iast od_5_15 (st_A1 ha) (st_i1 ha bq1) ?_
    refine ev_iinc (v := (x1 + (1 : Int32))) (lv1 := [some (.ref a), some (.int (x1 + (1 : Int32)))]) od_5_16 rfl rfl rfl ?_
    refine ev_goto (t := 2) od_5_19 (by decide) ?_
    cases h
    exact hk
def b5_24 (a : Nat) (x1 : Int32) (S : ov_S) : Option ((Int32 × ov_S) ⊕ (ov_S)) :=
  (if (4 : Int32) ≤ x1 then some (.inr S) else (f6 4 S x1).bind fun y4 => ov_ck (ov_ibb x1 4) (some (.inl ((x1 + (1 : Int32)), (ov_up S (a + 2) (x1).toNatClampNeg y4)))))
theorem bt5_24 {L : Nat} {S : ov_S} {G : ov_L2} {a : Nat} {x1 : Int32} {P : Option Value → ov_S → ov_L2 → Prop} (ha : ov_St a) {out : (Int32 × ov_S) ⊕ (ov_S)} (h : b5_24 a x1 S = some out) (hk : ov_sm (σ := Int32 × ov_S) (ε := (ov_S)) (fun s => ov_J L 2 5 24 [some (.ref a), some (.int s.1)] [] s.2 G P) (fun e => ov_J L 2 5 49 [some (.ref a), none] [] e G P) out) : ov_J L 2 5 24 [some (.ref a), some (.int x1)] [] S G P := by
  unfold b5_24 at h
  refine ev_iload_n od_5_24 rfl ?_
  refine ev_iconst (v := (4 : Int32)) od_5_25 (by decide) ?_
  refine ev_icmp_ge (t := 49) od_5_26 (by decide) (fun hc6 => ?_) (fun hc6 => ?_)
  · rw [if_pos hc6] at h
    cases h
    refine ev_fg (lv0 := [some (.ref a), none]) (ov_le_s (ov_le_n (ov_le_e))) ?_
    exact hk
  · rw [if_neg hc6] at h
    refine ev_aload_n od_5_29 rfl ?_
    refine ev_gf (v := .ref (a + 2)) og_5_30 (st_O ha) (st_v2 ha) ?_
    refine ev_iload_n od_5_33 rfl ?_
    refine ev_aload_n od_5_34 rfl ?_
    refine ev_gf (v := .ref 4) og_5_35 (st_O ha) (st_v0 ha) ?_
    refine ev_iload_n od_5_38 rfl ?_
    obtain ⟨y4, hy4, h⟩ := ov_bd h
    try dsimp only at h
    refine ev_cvi (y := 6) (n := 1) (a := 4) (c := 2) (as := [.int x1]) (rest := [.int x1, .ref (a + 2)]) (dc := 2) oc_5_39 rfl rfl rfl oO_4 rfl rfl rfl rfl (by decide) (R6 oP_4 hy4) ?_
    obtain ⟨bq5, h⟩ := ov_ck_ok h
    refine ev_iast od_5_42 (st_A2 ha) (st_i2 ha bq5) ?_
    refine ev_iinc (v := (x1 + (1 : Int32))) (lv1 := [some (.ref a), some (.int (x1 + (1 : Int32)))]) od_5_43 rfl rfl rfl ?_
    refine ev_goto (t := 24) od_5_46 (by decide) ?_
    cases h
    exact hk
def f5 (a : Nat) (S : ov_S) : Option (ov_S) :=
  ((ov_lp (fun s => b5_2 a s.1 s.2) 2000 ((0 : Int32), S)).bind fun e3 => ((ov_lp (fun s => b5_24 a s.1 s.2) 2000 ((0 : Int32), e3)).bind fun e7 => some (ov_up (ov_up e7 a 3 (0 : Int32)) a 4 (0 : Int32))))
theorem t5 {L : Nat} {S : ov_S} {G : ov_L2} {a : Nat} {P : Option Value → ov_S → ov_L2 → Prop} (ha : ov_St a) {out : ov_S} (h : f5 a S = some out) (hP : P none out G) : ov_J L 2 5 0 [some (.ref a), none] [] S G P := by
  unfold f5 at h
  refine ev_iconst (v := (0 : Int32)) od_5_0 (by decide) ?_
  refine ev_istore_n (lv1 := [some (.ref a), some (.int (0 : Int32))]) od_5_1 rfl rfl ?_
  obtain ⟨e3, he3, h⟩ := ov_bd h
  try dsimp only at h
  refine ov_lp_S (body := (fun s => b5_2 a s.1 s.2)) (head := (fun s => ov_J L 2 5 2 [some (.ref a), some (.int s.1)] [] s.2 G P)) (exit := (fun e => ov_J L 2 5 22 [some (.ref a), none] [] e G P)) (fun s r hb hk => bt5_2 ha hb hk) 2000 ((0 : Int32), S) e3 he3 ?_
  show ov_J L 2 5 22 [some (.ref a), none] [] e3 G P
  refine ev_iconst (v := (0 : Int32)) od_5_22 (by decide) ?_
  refine ev_istore_n (lv1 := [some (.ref a), some (.int (0 : Int32))]) od_5_23 rfl rfl ?_
  obtain ⟨e7, he7, h⟩ := ov_bd h
  try dsimp only at h
  refine ov_lp_S (body := (fun s => b5_24 a s.1 s.2)) (head := (fun s => ov_J L 2 5 24 [some (.ref a), some (.int s.1)] [] s.2 G P)) (exit := (fun e => ov_J L 2 5 49 [some (.ref a), none] [] e G P)) (fun s r hb hk => bt5_24 ha hb hk) 2000 ((0 : Int32), e3) e7 he7 ?_
  show ov_J L 2 5 49 [some (.ref a), none] [] e7 G P
  refine ev_aload_n od_5_49 rfl ?_
  refine ev_iconst (v := (0 : Int32)) od_5_50 (by decide) ?_
  refine ev_pf op_5_51 (st_O ha) (st_c3 ha) rfl ?_
  refine ev_aload_n od_5_54 rfl ?_
  refine ev_iconst (v := (0 : Int32)) od_5_55 (by decide) ?_
  refine ev_pf op_5_56 (st_O ha) (st_c4 ha) rfl ?_
  cases h
  exact ev_vret od_5_59 rfl hP
theorem R5 {L : Nat} {S : ov_S} {G : ov_L2} {a : Nat} (ha : ov_St a) {out : ov_S} (h : f5 a S = some out) : ov_R L 3 5 [.ref a] S G none out G :=
  ov_Rof (t5 ha h ⟨rfl, rfl, rfl⟩)
-- 21 OE$Play.takeThing
def f21 (a : Nat) (S : ov_S) (x1 : Int32) (x2 : Int32) (x3 : Int32) : Option (Int32 × ov_S) :=
  (if x1 = (68 : Int32) then (f22 a S (x2 - (97 : Int32))).bind fun y2 => some (y2.1, y2.2) else if x1 = (70 : Int32) then (f25 a S (x2 - (97 : Int32))).bind fun y4 => some (y4.1, y4.2) else if x1 = (76 : Int32) then (f28 a S (x2 - (48 : Int32)) (x3 - (48 : Int32))).bind fun y6 => some (y6.1, y6.2) else if x1 = (80 : Int32) then (f26 a S (x2 - (48 : Int32)) (x3 - (48 : Int32))).bind fun y8 => some (y8.1, y8.2) else some ((0 : Int32), S))
theorem t21 {L : Nat} {S : ov_S} {G : ov_L2} {a : Nat} {x1 : Int32} {x2 : Int32} {x3 : Int32} {P : Option Value → ov_S → ov_L2 → Prop} (ha : ov_Pl a) {out : Int32 × ov_S} (h : f21 a S x1 x2 x3 = some out) (hP : P (some (.int out.1)) out.2 G) : ov_J L 2 21 0 [some (.ref a), some (.int x1), some (.int x2), some (.int x3)] [] S G P := by
  unfold f21 at h
  refine ev_iload_n od_21_0 rfl ?_
  by_cases hc1 : x1 = (68 : Int32)
  · rw [if_pos hc1] at h
    refine ev_lk (off := 43) (t := 44) od_21_1 (by decide) (by rw [hc1]; decide) (by decide) ?_
    refine ev_aload_n od_21_44 rfl ?_
    refine ev_iload_n od_21_45 rfl ?_
    refine ev_bipush (v := (97 : Int32)) od_21_46 (by decide) ?_
    refine ev_isub od_21_48 ?_
    obtain ⟨y2, hy2, h⟩ := ov_bd h
    try dsimp only at h
    refine ev_cvi (y := 22) (n := 1) (a := a) (c := 2) (as := [.int (x2 - (97 : Int32))]) (rest := []) (dc := 2) oc_21_49 rfl rfl rfl (pl_O ha) rfl rfl rfl rfl (by decide) (R22 ha hy2) ?_
    cases h
    exact ev_iret od_21_52 rfl hP
  rw [if_neg hc1] at h
  by_cases hc3 : x1 = (70 : Int32)
  · rw [if_pos hc3] at h
    refine ev_lk (off := 52) (t := 53) od_21_1 (by decide) (by rw [hc3]; decide) (by decide) ?_
    refine ev_aload_n od_21_53 rfl ?_
    refine ev_iload_n od_21_54 rfl ?_
    refine ev_bipush (v := (97 : Int32)) od_21_55 (by decide) ?_
    refine ev_isub od_21_57 ?_
    obtain ⟨y4, hy4, h⟩ := ov_bd h
    try dsimp only at h
    refine ev_cvi (y := 25) (n := 1) (a := a) (c := 2) (as := [.int (x2 - (97 : Int32))]) (rest := []) (dc := 2) oc_21_58 rfl rfl rfl (pl_O ha) rfl rfl rfl rfl (by decide) (R25 ha hy4) ?_
    cases h
    exact ev_iret od_21_61 rfl hP
  rw [if_neg hc3] at h
  by_cases hc5 : x1 = (76 : Int32)
  · rw [if_pos hc5] at h
    refine ev_lk (off := 74) (t := 75) od_21_1 (by decide) (by rw [hc5]; decide) (by decide) ?_
    refine ev_aload_n od_21_75 rfl ?_
    refine ev_iload_n od_21_76 rfl ?_
    refine ev_bipush (v := (48 : Int32)) od_21_77 (by decide) ?_
    refine ev_isub od_21_79 ?_
    refine ev_iload_n od_21_80 rfl ?_
    refine ev_bipush (v := (48 : Int32)) od_21_81 (by decide) ?_
    refine ev_isub od_21_83 ?_
    obtain ⟨y6, hy6, h⟩ := ov_bd h
    try dsimp only at h
    refine ev_cvi (y := 28) (n := 2) (a := a) (c := 2) (as := [.int (x2 - (48 : Int32)), .int (x3 - (48 : Int32))]) (rest := []) (dc := 2) oc_21_84 rfl rfl rfl (pl_O ha) rfl rfl rfl rfl (by decide) (R28 ha hy6) ?_
    cases h
    exact ev_iret od_21_87 rfl hP
  rw [if_neg hc5] at h
  by_cases hc7 : x1 = (80 : Int32)
  · rw [if_pos hc7] at h
    refine ev_lk (off := 61) (t := 62) od_21_1 (by decide) (by rw [hc7]; decide) (by decide) ?_
    refine ev_aload_n od_21_62 rfl ?_
    refine ev_iload_n od_21_63 rfl ?_
    refine ev_bipush (v := (48 : Int32)) od_21_64 (by decide) ?_
    refine ev_isub od_21_66 ?_
    refine ev_iload_n od_21_67 rfl ?_
    refine ev_bipush (v := (48 : Int32)) od_21_68 (by decide) ?_
    refine ev_isub od_21_70 ?_
    obtain ⟨y8, hy8, h⟩ := ov_bd h
    try dsimp only at h
    refine ev_cvi (y := 26) (n := 2) (a := a) (c := 2) (as := [.int (x2 - (48 : Int32)), .int (x3 - (48 : Int32))]) (rest := []) (dc := 2) oc_21_71 rfl rfl rfl (pl_O ha) rfl rfl rfl rfl (by decide) (R26 ha hy8) ?_
    cases h
    exact ev_iret od_21_74 rfl hP
  rw [if_neg hc7] at h
  have ehc1 := ov_ni hc1
  rw [show ((68 : Int32)).toInt = 68 from by decide] at ehc1
  have ehc3 := ov_ni hc3
  rw [show ((70 : Int32)).toInt = 70 from by decide] at ehc3
  have ehc5 := ov_ni hc5
  rw [show ((76 : Int32)).toInt = 76 from by decide] at ehc5
  have ehc7 := ov_ni hc7
  rw [show ((80 : Int32)).toInt = 80 from by decide] at ehc7
  refine ev_lk (off := 87) (t := 88) od_21_1 (by decide) (by simp [Op.lookupswitch.offset, ehc1, Ne.symm ehc1, ehc3, Ne.symm ehc3, ehc5, Ne.symm ehc5, ehc7, Ne.symm ehc7]) (by decide) ?_
  refine ev_iconst (v := (0 : Int32)) od_21_88 (by decide) ?_
  cases h
  exact ev_iret od_21_89 rfl hP
theorem R21 {L : Nat} {S : ov_S} {G : ov_L2} {a : Nat} {x1 : Int32} {x2 : Int32} {x3 : Int32} (ha : ov_Pl a) {out : Int32 × ov_S} (h : f21 a S x1 x2 x3 = some out) : ov_R L 3 21 [.ref a, .int x1, .int x2, .int x3] S G (some (.int out.1)) out.2 G :=
  ov_Rof (t21 ha h ⟨rfl, rfl, rfl⟩)
-- 34 OE$Stage.isOn
def f34 (a : Nat) (S : ov_S) (x1 : Int32) : Option (Int32) :=
  (f35 a S x1).bind fun y1 => (if y1 = (-9 : Int32) then some (0 : Int32) else some (1 : Int32))
theorem t34 {L : Nat} {S : ov_S} {G : ov_L2} {a : Nat} {x1 : Int32} {P : Option Value → ov_S → ov_L2 → Prop} (ha : ov_St a) {out : Int32} (h : f34 a S x1 = some out) (hP : P (some (.int out)) S G) : ov_J L 2 34 0 [some (.ref a), some (.int x1)] [] S G P := by
  unfold f34 at h
  refine ev_aload_n od_34_0 rfl ?_
  refine ev_iload_n od_34_1 rfl ?_
  obtain ⟨y1, hy1, h⟩ := ov_bd h
  try dsimp only at h
  refine ev_cvi (y := 35) (n := 1) (a := a) (c := 3) (as := [.int x1]) (rest := []) (dc := 2) oc_34_2 rfl rfl rfl (st_O ha) rfl rfl rfl rfl (by decide) (R35 ha hy1) ?_
  refine ev_bipush (v := (-9 : Int32)) od_34_5 (by decide) ?_
  refine ev_icmp_eq (t := 14) od_34_7 (by decide) (fun hc2 => ?_) (fun hc2 => ?_)
  · rw [if_pos hc2] at h
    refine ev_iconst (v := (0 : Int32)) od_34_14 (by decide) ?_
    cases h
    exact ev_zret od_34_15 rfl (by decide) hP
  · rw [if_neg hc2] at h
    refine ev_iconst (v := (1 : Int32)) od_34_10 (by decide) ?_
    refine ev_goto (t := 15) od_34_11 (by decide) ?_
    cases h
    exact ev_zret od_34_15 rfl (by decide) hP
theorem R34 {L : Nat} {S : ov_S} {G : ov_L2} {a : Nat} {x1 : Int32} (ha : ov_St a) {out : Int32} (h : f34 a S x1 = some out) : ov_R L 3 34 [.ref a, .int x1] S G (some (.int out)) S G :=
  ov_Rof (t34 ha h ⟨rfl, rfl, rfl⟩)
-- 38 OE$Stage.bodyCells
def f38 (a : Nat) (S : ov_S) (x1 : Int32) : Option (Int32) :=
  (f39 4 S).bind fun y1 => (f40 a S (x1 &&& (y1 ^^^ (-1 : Int32)))).bind fun y2 => some y2
theorem t38 {L : Nat} {S : ov_S} {G : ov_L2} {a : Nat} {x1 : Int32} {P : Option Value → ov_S → ov_L2 → Prop} (ha : ov_St a) {out : Int32} (h : f38 a S x1 = some out) (hP : P (some (.int out)) S G) : ov_J L 2 38 0 [some (.ref a), some (.int x1)] [] S G P := by
  unfold f38 at h
  refine ev_aload_n od_38_0 rfl ?_
  refine ev_iload_n od_38_1 rfl ?_
  refine ev_aload_n od_38_2 rfl ?_
  refine ev_gf (v := .ref 4) og_38_3 (st_O ha) (st_v0 ha) ?_
  obtain ⟨y1, hy1, h⟩ := ov_bd h
  try dsimp only at h
  refine ev_cvi (y := 39) (n := 0) (a := 4) (c := 2) (as := []) (rest := [.int x1, .ref a]) (dc := 1) oc_38_6 rfl rfl rfl oO_4 rfl rfl rfl rfl (by decide) (R39 oP_4 hy1) ?_
  refine ev_iconst (v := (-1 : Int32)) od_38_9 (by decide) ?_
  refine ev_ixor od_38_10 ?_
  refine ev_iand od_38_11 ?_
  obtain ⟨y2, hy2, h⟩ := ov_bd h
  try dsimp only at h
  refine ev_cvi (y := 40) (n := 1) (a := a) (c := 3) (as := [.int (x1 &&& (y1 ^^^ (-1 : Int32)))]) (rest := []) (dc := 2) oc_38_12 rfl rfl rfl (st_O ha) rfl rfl rfl rfl (by decide) (R40 ha hy2) ?_
  cases h
  exact ev_iret od_38_15 rfl hP
theorem R38 {L : Nat} {S : ov_S} {G : ov_L2} {a : Nat} {x1 : Int32} (ha : ov_St a) {out : Int32} (h : f38 a S x1 = some out) : ov_R L 3 38 [.ref a, .int x1] S G (some (.int out)) S G :=
  ov_Rof (t38 ha h ⟨rfl, rfl, rfl⟩)
-- 47 OE$Stage.haveSight
def f47 (a : Nat) (S : ov_S) (x1 : Int32) (x2 : Int32) (x3 : Int32) : Option (Int32) :=
  (f35 a S x1).bind fun y1 => (f35 a S x2).bind fun y2 => (f48 y1 y2).bind fun y3 => (if y3 = (-9 : Int32) then some (0 : Int32) else (if (y3 &&& x3) = 0 then some (1 : Int32) else some (0 : Int32)))
theorem t47 {L : Nat} {S : ov_S} {G : ov_L2} {a : Nat} {x1 : Int32} {x2 : Int32} {x3 : Int32} {P : Option Value → ov_S → ov_L2 → Prop} (ha : ov_St a) {out : Int32} (h : f47 a S x1 x2 x3 = some out) (hP : P (some (.int out)) S G) : ov_J L 2 47 0 [some (.ref a), some (.int x1), some (.int x2), some (.int x3), none] [] S G P := by
  unfold f47 at h
  refine ev_aload_n od_47_0 rfl ?_
  refine ev_iload_n od_47_1 rfl ?_
  obtain ⟨y1, hy1, h⟩ := ov_bd h
  try dsimp only at h
  refine ev_cvi (y := 35) (n := 1) (a := a) (c := 3) (as := [.int x1]) (rest := []) (dc := 2) oc_47_2 rfl rfl rfl (st_O ha) rfl rfl rfl rfl (by decide) (R35 ha hy1) ?_
  refine ev_aload_n od_47_5 rfl ?_
  refine ev_iload_n od_47_6 rfl ?_
  obtain ⟨y2, hy2, h⟩ := ov_bd h
  try dsimp only at h
  refine ev_cvi (y := 35) (n := 1) (a := a) (c := 3) (as := [.int x2]) (rest := [.int y1]) (dc := 2) oc_47_7 rfl rfl rfl (st_O ha) rfl rfl rfl rfl (by decide) (R35 ha hy2) ?_
  obtain ⟨y3, hy3, h⟩ := ov_bd h
  try dsimp only at h
  refine ev_csi (y := 48) (n := 2) (as := [.int y1, .int y2]) (rest := []) (dc := 2) oc_47_10 rfl rfl rfl rfl rfl (by decide) (R48  hy3) ?_
  refine ev_istore (lv1 := [some (.ref a), some (.int x1), some (.int x2), some (.int x3), some (.int y3)]) od_47_13 rfl rfl ?_
  refine ev_iload od_47_15 rfl ?_
  refine ev_bipush (v := (-9 : Int32)) od_47_17 (by decide) ?_
  refine ev_icmp_eq (t := 33) od_47_19 (by decide) (fun hc5 => ?_) (fun hc5 => ?_)
  · rw [if_pos hc5] at h
    refine ev_iconst (v := (0 : Int32)) od_47_33 (by decide) ?_
    cases h
    exact ev_zret od_47_34 rfl (by decide) hP
  · rw [if_neg hc5] at h
    refine ev_iload od_47_22 rfl ?_
    refine ev_iload_n od_47_24 rfl ?_
    refine ev_iand od_47_25 ?_
    refine ev_if_ne (t := 33) od_47_26 (by decide) (fun hc4 => ?_) (fun hc4 => ?_)
    · rw [if_neg hc4] at h
      refine ev_iconst (v := (0 : Int32)) od_47_33 (by decide) ?_
      cases h
      exact ev_zret od_47_34 rfl (by decide) hP
    · rw [if_pos hc4] at h
      refine ev_iconst (v := (1 : Int32)) od_47_29 (by decide) ?_
      refine ev_goto (t := 34) od_47_30 (by decide) ?_
      cases h
      exact ev_zret od_47_34 rfl (by decide) hP
theorem R47 {L : Nat} {S : ov_S} {G : ov_L2} {a : Nat} {x1 : Int32} {x2 : Int32} {x3 : Int32} (ha : ov_St a) {out : Int32} (h : f47 a S x1 x2 x3 = some out) : ov_R L 3 47 [.ref a, .int x1, .int x2, .int x3] S G (some (.int out)) S G :=
  ov_Rof (t47 ha h ⟨rfl, rfl, rfl⟩)
-- 53 OE$Stage.freeCells
def f53 (a : Nat) (S : ov_S) : Option (Int32) :=
  (f43 a S).bind fun y2 => (f40 a S (63 : Int32)).bind fun y3 => some (((262143 : Int32) &&& (y2 ^^^ (-1 : Int32))) &&& (y3 ^^^ (-1 : Int32)))
theorem t53 {L : Nat} {S : ov_S} {G : ov_L2} {a : Nat} {P : Option Value → ov_S → ov_L2 → Prop} (ha : ov_St a) {out : Int32} (h : f53 a S = some out) (hP : P (some (.int out)) S G) : ov_J L 2 53 0 [some (.ref a)] [] S G P := by
  unfold f53 at h
  obtain ⟨w1, hw1⟩ := ok_53_0
  refine ev_ldc od_53_0 hw1 ?_
  refine ev_aload_n od_53_2 rfl ?_
  obtain ⟨y2, hy2, h⟩ := ov_bd h
  try dsimp only at h
  refine ev_cvi (y := 43) (n := 0) (a := a) (c := 3) (as := []) (rest := [.int (262143 : Int32)]) (dc := 2) oc_53_3 rfl rfl rfl (st_O ha) rfl rfl rfl rfl (by decide) (R43 ha hy2) ?_
  refine ev_iconst (v := (-1 : Int32)) od_53_6 (by decide) ?_
  refine ev_ixor od_53_7 ?_
  refine ev_iand od_53_8 ?_
  refine ev_aload_n od_53_9 rfl ?_
  refine ev_bipush (v := (63 : Int32)) od_53_10 (by decide) ?_
  obtain ⟨y3, hy3, h⟩ := ov_bd h
  try dsimp only at h
  refine ev_cvi (y := 40) (n := 1) (a := a) (c := 3) (as := [.int (63 : Int32)]) (rest := [.int ((262143 : Int32) &&& (y2 ^^^ (-1 : Int32)))]) (dc := 2) oc_53_12 rfl rfl rfl (st_O ha) rfl rfl rfl rfl (by decide) (R40 ha hy3) ?_
  refine ev_iconst (v := (-1 : Int32)) od_53_15 (by decide) ?_
  refine ev_ixor od_53_16 ?_
  refine ev_iand od_53_17 ?_
  cases h
  exact ev_iret od_53_18 rfl hP
theorem R53 {L : Nat} {S : ov_S} {G : ov_L2} {a : Nat} (ha : ov_St a) {out : Int32} (h : f53 a S = some out) : ov_R L 3 53 [.ref a] S G (some (.int out)) S G :=
  ov_Rof (t53 ha h ⟨rfl, rfl, rfl⟩)
-- 57 OE.door
def f57 (S : ov_S) (x1 : Int32) : Option (Int32) :=
  (f58 4 S x1).bind fun y1 => (if y1 = 0 then some (-1 : Int32) else (f59 4 S x1).bind fun y2 => some y2)
theorem t57 {L : Nat} {S : ov_S} {G : ov_L2} {x1 : Int32} {P : Option Value → ov_S → ov_L2 → Prop}  {out : Int32} (h : f57 S x1 = some out) (hP : P (some (.int out)) S G) : ov_J L 2 57 0 [some (.ref 1), some (.int x1)] [] S G P := by
  unfold f57 at h
  refine ev_aload_n od_57_0 rfl ?_
  refine ev_gf (v := .ref 4) og_57_1 oO_1 rfl ?_
  refine ev_iload_n od_57_4 rfl ?_
  obtain ⟨y1, hy1, h⟩ := ov_bd h
  try dsimp only at h
  refine ev_cvi (y := 58) (n := 1) (a := 4) (c := 2) (as := [.int x1]) (rest := []) (dc := 1) oc_57_5 rfl rfl rfl oO_4 rfl rfl rfl rfl (by decide) (R58 oP_4 hy1) ?_
  refine ev_if_eq (t := 22) od_57_8 (by decide) (fun hc3 => ?_) (fun hc3 => ?_)
  · rw [if_pos hc3] at h
    refine ev_iconst (v := (-1 : Int32)) od_57_22 (by decide) ?_
    cases h
    exact ev_iret od_57_23 rfl hP
  · rw [if_neg hc3] at h
    refine ev_aload_n od_57_11 rfl ?_
    refine ev_gf (v := .ref 4) og_57_12 oO_1 rfl ?_
    refine ev_iload_n od_57_15 rfl ?_
    obtain ⟨y2, hy2, h⟩ := ov_bd h
    try dsimp only at h
    refine ev_cvi (y := 59) (n := 1) (a := 4) (c := 2) (as := [.int x1]) (rest := []) (dc := 2) oc_57_16 rfl rfl rfl oO_4 rfl rfl rfl rfl (by decide) (R59 oP_4 hy2) ?_
    refine ev_goto (t := 23) od_57_19 (by decide) ?_
    cases h
    exact ev_iret od_57_23 rfl hP
theorem R57 {L : Nat} {S : ov_S} {G : ov_L2} {x1 : Int32}  {out : Int32} (h : f57 S x1 = some out) : ov_R L 3 57 [.ref 1, .int x1] S G (some (.int out)) S G :=
  ov_Rof (t57  h ⟨rfl, rfl, rfl⟩)
-- 60 OE.stool
def f60 (S : ov_S) (x1 : Int32) : Option (Int32) :=
  (f7 4 S x1).bind fun y1 => (if y1 = 0 then some (-1 : Int32) else (f61 18 S x1).bind fun y2 => some y2)
theorem t60 {L : Nat} {S : ov_S} {G : ov_L2} {x1 : Int32} {P : Option Value → ov_S → ov_L2 → Prop}  {out : Int32} (h : f60 S x1 = some out) (hP : P (some (.int out)) S G) : ov_J L 2 60 0 [some (.ref 1), some (.int x1)] [] S G P := by
  unfold f60 at h
  refine ev_aload_n od_60_0 rfl ?_
  refine ev_gf (v := .ref 4) og_60_1 oO_1 rfl ?_
  refine ev_iload_n od_60_4 rfl ?_
  obtain ⟨y1, hy1, h⟩ := ov_bd h
  try dsimp only at h
  refine ev_cvi (y := 7) (n := 1) (a := 4) (c := 2) (as := [.int x1]) (rest := []) (dc := 1) oc_60_5 rfl rfl rfl oO_4 rfl rfl rfl rfl (by decide) (R7 oP_4 hy1) ?_
  refine ev_if_eq (t := 22) od_60_8 (by decide) (fun hc3 => ?_) (fun hc3 => ?_)
  · rw [if_pos hc3] at h
    refine ev_iconst (v := (-1 : Int32)) od_60_22 (by decide) ?_
    cases h
    exact ev_iret od_60_23 rfl hP
  · rw [if_neg hc3] at h
    refine ev_aload_n od_60_11 rfl ?_
    refine ev_gf (v := .ref 18) og_60_12 oO_1 rfl ?_
    refine ev_iload_n od_60_15 rfl ?_
    obtain ⟨y2, hy2, h⟩ := ov_bd h
    try dsimp only at h
    refine ev_cvi (y := 61) (n := 1) (a := 18) (c := 3) (as := [.int x1]) (rest := []) (dc := 2) oc_60_16 rfl rfl rfl oO_18 rfl rfl rfl rfl (by decide) (R61 oS_18 hy2) ?_
    refine ev_goto (t := 23) od_60_19 (by decide) ?_
    cases h
    exact ev_iret od_60_23 rfl hP
theorem R60 {L : Nat} {S : ov_S} {G : ov_L2} {x1 : Int32}  {out : Int32} (h : f60 S x1 = some out) : ov_R L 3 60 [.ref 1, .int x1] S G (some (.int out)) S G :=
  ov_Rof (t60  h ⟨rfl, rfl, rfl⟩)
-- 84 OE$Play.doorwayCells
def b84_4 (a : Nat) (S : ov_S) (x1 : Int32) (x2 : Int32) : Option ((Int32 × Int32) ⊕ (Int32)) :=
  (if (S a 0) ≤ x2 then some (.inr x1) else (f59 a S x2).bind fun y1 => (f24 y1).bind fun y2 => some (.inl ((x1 ||| y2), (x2 + (1 : Int32)))))
theorem bt84_4 {L : Nat} {S : ov_S} {G : ov_L2} {a : Nat} {x1 : Int32} {x2 : Int32} {P : Option Value → ov_S → ov_L2 → Prop} (ha : ov_Pl a) {out : (Int32 × Int32) ⊕ (Int32)} (h : b84_4 a S x1 x2 = some out) (hk : ov_sm (σ := Int32 × Int32) (ε := (Int32)) (fun s => ov_J L 2 84 4 [some (.ref a), some (.int s.1), some (.int s.2)] [] S G P) (fun e => ov_J L 2 84 29 [none, some (.int e), none] [] S G P) out) : ov_J L 2 84 4 [some (.ref a), some (.int x1), some (.int x2)] [] S G P := by
  unfold b84_4 at h
  refine ev_iload_n od_84_4 rfl ?_
  refine ev_aload_n od_84_5 rfl ?_
  refine ev_gf (v := .int (S a 0)) og_84_6 (pl_O ha) (pl_v0 ha) ?_
  refine ev_icmp_ge (t := 29) od_84_9 (by decide) (fun hc3 => ?_) (fun hc3 => ?_)
  · rw [if_pos hc3] at h
    cases h
    refine ev_fg (lv0 := [none, some (.int x1), none]) (ov_le_n (ov_le_s (ov_le_n (ov_le_e)))) ?_
    exact hk
  · rw [if_neg hc3] at h
    refine ev_iload_n od_84_12 rfl ?_
    refine ev_aload_n od_84_13 rfl ?_
    refine ev_iload_n od_84_14 rfl ?_
    obtain ⟨y1, hy1, h⟩ := ov_bd h
    try dsimp only at h
    refine ev_cvi (y := 59) (n := 1) (a := a) (c := 2) (as := [.int x2]) (rest := [.int x1]) (dc := 2) oc_84_15 rfl rfl rfl (pl_O ha) rfl rfl rfl rfl (by decide) (R59 ha hy1) ?_
    obtain ⟨y2, hy2, h⟩ := ov_bd h
    try dsimp only at h
    refine ev_csi (y := 24) (n := 1) (as := [.int y1]) (rest := [.int x1]) (dc := 1) oc_84_18 rfl rfl rfl rfl rfl (by decide) (R24  hy2) ?_
    refine ev_ior od_84_21 ?_
    refine ev_istore_n (lv1 := [some (.ref a), some (.int (x1 ||| y2)), some (.int x2)]) od_84_22 rfl rfl ?_
    refine ev_iinc (v := (x2 + (1 : Int32))) (lv1 := [some (.ref a), some (.int (x1 ||| y2)), some (.int (x2 + (1 : Int32)))]) od_84_23 rfl rfl rfl ?_
    refine ev_goto (t := 4) od_84_26 (by decide) ?_
    cases h
    exact hk
def f84 (a : Nat) (S : ov_S) : Option (Int32) :=
  ((ov_lp (fun s => b84_4 a S s.1 s.2) 2000 ((0 : Int32), (0 : Int32))).bind fun e4 => some e4)
theorem t84 {L : Nat} {S : ov_S} {G : ov_L2} {a : Nat} {P : Option Value → ov_S → ov_L2 → Prop} (ha : ov_Pl a) {out : Int32} (h : f84 a S = some out) (hP : P (some (.int out)) S G) : ov_J L 2 84 0 [some (.ref a), none, none] [] S G P := by
  unfold f84 at h
  refine ev_iconst (v := (0 : Int32)) od_84_0 (by decide) ?_
  refine ev_istore_n (lv1 := [some (.ref a), some (.int (0 : Int32)), none]) od_84_1 rfl rfl ?_
  refine ev_iconst (v := (0 : Int32)) od_84_2 (by decide) ?_
  refine ev_istore_n (lv1 := [some (.ref a), some (.int (0 : Int32)), some (.int (0 : Int32))]) od_84_3 rfl rfl ?_
  obtain ⟨e4, he4, h⟩ := ov_bd h
  try dsimp only at h
  refine ov_lp_S (body := (fun s => b84_4 a S s.1 s.2)) (head := (fun s => ov_J L 2 84 4 [some (.ref a), some (.int s.1), some (.int s.2)] [] S G P)) (exit := (fun e => ov_J L 2 84 29 [none, some (.int e), none] [] S G P)) (fun s r hb hk => bt84_4 ha hb hk) 2000 ((0 : Int32), (0 : Int32)) e4 he4 ?_
  show ov_J L 2 84 29 [none, some (.int e4), none] [] S G P
  refine ev_iload_n od_84_29 rfl ?_
  cases h
  exact ev_iret od_84_30 rfl hP
theorem R84 {L : Nat} {S : ov_S} {G : ov_L2} {a : Nat} (ha : ov_Pl a) {out : Int32} (h : f84 a S = some out) : ov_R L 3 84 [.ref a] S G (some (.int out)) S G :=
  ov_Rof (t84 ha h ⟨rfl, rfl, rfl⟩)
-- 89 OE$Stage.takeBack
def f89_51 (a : Nat) (S : ov_S) : Option (ov_S) :=
  some (ov_up S a 4 ((S a 4) - (1 : Int32)))
theorem t89_51 {L : Nat} {S : ov_S} {G : ov_L2} {a : Nat} {P : Option Value → ov_S → ov_L2 → Prop} (ha : ov_St a) {out : ov_S} (h : f89_51 a S = some out) (hP : P none out G) : ov_J L 2 89 51 [some (.ref a), none, none, none] [] S G P := by
  unfold f89_51 at h
  refine ev_aload_n od_89_51 rfl ?_
  refine ev_dup od_89_52 rfl ?_
  refine ev_gf (v := .int (S a 4)) og_89_53 (st_O ha) (st_v4 ha) ?_
  refine ev_iconst (v := (1 : Int32)) od_89_56 (by decide) ?_
  refine ev_isub od_89_57 ?_
  refine ev_pf op_89_58 (st_O ha) (st_c4 ha) rfl ?_
  cases h
  exact ev_vret od_89_61 rfl hP
def f89 (a : Nat) (S : ov_S) (x1 : Int32) (x2 : Int32) (x3 : Int32) : Option (ov_S) :=
  (if x1 = 0 then (f90 a S x2 x3).bind fun y6 => f89_51 a y6 else (if x1 = (1 : Int32) then (f91 (S a 3) x2).bind fun y4 => f89_51 a (ov_up S a 3 y4) else (f7 4 S x2).bind fun y1 => (if y1 = 0 then f89_51 a S else ov_ck (ov_ibb x2 4) (f89_51 a (ov_up S (a + 2) (x2).toNatClampNeg x3)))))
theorem t89 {L : Nat} {S : ov_S} {G : ov_L2} {a : Nat} {x1 : Int32} {x2 : Int32} {x3 : Int32} {P : Option Value → ov_S → ov_L2 → Prop} (ha : ov_St a) {out : ov_S} (h : f89 a S x1 x2 x3 = some out) (hP : P none out G) : ov_J L 2 89 0 [some (.ref a), some (.int x1), some (.int x2), some (.int x3)] [] S G P := by
  unfold f89 at h
  refine ev_iload_n od_89_0 rfl ?_
  refine ev_if_ne (t := 13) od_89_1 (by decide) (fun hc7 => ?_) (fun hc7 => ?_)
  · rw [if_neg hc7] at h
    refine ev_iload_n od_89_13 rfl ?_
    refine ev_iconst (v := (1 : Int32)) od_89_14 (by decide) ?_
    refine ev_icmp_ne (t := 33) od_89_15 (by decide) (fun hc5 => ?_) (fun hc5 => ?_)
    · rw [if_neg hc5] at h
      refine ev_aload_n od_89_33 rfl ?_
      refine ev_gf (v := .ref 4) og_89_34 (st_O ha) (st_v0 ha) ?_
      refine ev_iload_n od_89_37 rfl ?_
      obtain ⟨y1, hy1, h⟩ := ov_bd h
      try dsimp only at h
      refine ev_cvi (y := 7) (n := 1) (a := 4) (c := 2) (as := [.int x2]) (rest := []) (dc := 1) oc_89_38 rfl rfl rfl oO_4 rfl rfl rfl rfl (by decide) (R7 oP_4 hy1) ?_
      refine ev_if_eq (t := 51) od_89_41 (by decide) (fun hc3 => ?_) (fun hc3 => ?_)
      · rw [if_pos hc3] at h
        refine ev_fg (lv0 := [some (.ref a), none, none, none]) (ov_le_s (ov_le_n (ov_le_n (ov_le_n (ov_le_e))))) ?_
        exact t89_51 ha h hP
      · rw [if_neg hc3] at h
        refine ev_aload_n od_89_44 rfl ?_
        refine ev_gf (v := .ref (a + 2)) og_89_45 (st_O ha) (st_v2 ha) ?_
        refine ev_iload_n od_89_48 rfl ?_
        refine ev_iload_n od_89_49 rfl ?_
        obtain ⟨bq2, h⟩ := ov_ck_ok h
        refine ev_iast od_89_50 (st_A2 ha) (st_i2 ha bq2) ?_
        refine ev_fg (lv0 := [some (.ref a), none, none, none]) (ov_le_s (ov_le_n (ov_le_n (ov_le_n (ov_le_e))))) ?_
        exact t89_51 ha h hP
    · rw [if_pos hc5] at h
      refine ev_aload_n od_89_18 rfl ?_
      refine ev_aload_n od_89_19 rfl ?_
      refine ev_gf (v := .int (S a 3)) og_89_20 (st_O ha) (st_v3 ha) ?_
      refine ev_iload_n od_89_23 rfl ?_
      obtain ⟨y4, hy4, h⟩ := ov_bd h
      try dsimp only at h
      refine ev_csi (y := 91) (n := 2) (as := [.int (S a 3), .int x2]) (rest := [.ref a]) (dc := 1) oc_89_24 rfl rfl rfl rfl rfl (by decide) (R91  hy4) ?_
      refine ev_pf op_89_27 (st_O ha) (st_c3 ha) rfl ?_
      refine ev_goto (t := 51) od_89_30 (by decide) ?_
      refine ev_fg (lv0 := [some (.ref a), none, none, none]) (ov_le_s (ov_le_n (ov_le_n (ov_le_n (ov_le_e))))) ?_
      exact t89_51 ha h hP
  · rw [if_pos hc7] at h
    refine ev_aload_n od_89_4 rfl ?_
    refine ev_iload_n od_89_5 rfl ?_
    refine ev_iload_n od_89_6 rfl ?_
    obtain ⟨y6, hy6, h⟩ := ov_bd h
    try dsimp only at h
    refine ev_cvv (y := 90) (n := 2) (a := a) (c := 3) (as := [.int x2, .int x3]) (rest := []) (dc := 2) oc_89_7 rfl rfl rfl (st_O ha) rfl rfl rfl rfl (by decide) (R90 ha hy6) ?_
    refine ev_goto (t := 51) od_89_10 (by decide) ?_
    refine ev_fg (lv0 := [some (.ref a), none, none, none]) (ov_le_s (ov_le_n (ov_le_n (ov_le_n (ov_le_e))))) ?_
    exact t89_51 ha h hP
theorem R89 {L : Nat} {S : ov_S} {G : ov_L2} {a : Nat} {x1 : Int32} {x2 : Int32} {x3 : Int32} (ha : ov_St a) {out : ov_S} (h : f89 a S x1 x2 x3 = some out) : ov_R L 3 89 [.ref a, .int x1, .int x2, .int x3] S G none out G :=
  ov_Rof (t89 ha h ⟨rfl, rfl, rfl⟩)
-- 99 OE$Play.linesOf
def f99_36_4 (a : Nat) (S : ov_S) (x1 : Int32) (x2 : Int32) (x3 : Int32) : Option ((Int32 × Int32) ⊕ (Int32)) :=
  some (.inl (x2, (x3 + (1 : Int32))))
theorem t99_36_4 {L : Nat} {S : ov_S} {G : ov_L2} {a : Nat} {x1 : Int32} {x2 : Int32} {x3 : Int32} {P : Option Value → ov_S → ov_L2 → Prop} (ha : ov_Pl a) {out : (Int32 × Int32) ⊕ (Int32)} (h : f99_36_4 a S x1 x2 x3 = some out) (hk : ov_sm (σ := Int32 × Int32) (ε := (Int32)) (fun s => ov_J L 2 99 4 [some (.ref a), some (.int x1), some (.int s.1), some (.int s.2)] [] S G P) (fun e => ov_J L 2 99 42 [none, none, some (.int e), none] [] S G P) out) : ov_J L 2 99 36 [some (.ref a), some (.int x1), some (.int x2), some (.int x3)] [] S G P := by
  unfold f99_36_4 at h
  refine ev_iinc (v := (x3 + (1 : Int32))) (lv1 := [some (.ref a), some (.int x1), some (.int x2), some (.int (x3 + (1 : Int32)))]) od_99_36 rfl rfl rfl ?_
  refine ev_goto (t := 4) od_99_39 (by decide) ?_
  cases h
  exact hk
def f99_30_4 (a : Nat) (S : ov_S) (x1 : Int32) (x2 : Int32) (x3 : Int32) : Option ((Int32 × Int32) ⊕ (Int32)) :=
  (f27 x2 x3).bind fun y2 => f99_36_4 a S x1 y2 x3
theorem t99_30_4 {L : Nat} {S : ov_S} {G : ov_L2} {a : Nat} {x1 : Int32} {x2 : Int32} {x3 : Int32} {P : Option Value → ov_S → ov_L2 → Prop} (ha : ov_Pl a) {out : (Int32 × Int32) ⊕ (Int32)} (h : f99_30_4 a S x1 x2 x3 = some out) (hk : ov_sm (σ := Int32 × Int32) (ε := (Int32)) (fun s => ov_J L 2 99 4 [some (.ref a), some (.int x1), some (.int s.1), some (.int s.2)] [] S G P) (fun e => ov_J L 2 99 42 [none, none, some (.int e), none] [] S G P) out) : ov_J L 2 99 30 [some (.ref a), some (.int x1), some (.int x2), some (.int x3)] [] S G P := by
  unfold f99_30_4 at h
  refine ev_iload_n od_99_30 rfl ?_
  refine ev_iload_n od_99_31 rfl ?_
  obtain ⟨y2, hy2, h⟩ := ov_bd h
  try dsimp only at h
  refine ev_csi (y := 27) (n := 2) (as := [.int x2, .int x3]) (rest := []) (dc := 1) oc_99_32 rfl rfl rfl rfl rfl (by decide) (R27  hy2) ?_
  refine ev_istore_n (lv1 := [some (.ref a), some (.int x1), some (.int y2), some (.int x3)]) od_99_35 rfl rfl ?_
  exact t99_36_4 ha h hk
def b99_4 (a : Nat) (S : ov_S) (x1 : Int32) (x2 : Int32) (x3 : Int32) : Option ((Int32 × Int32) ⊕ (Int32)) :=
  (if (S a 3) ≤ x3 then some (.inr x2) else (f44 a S x3).bind fun y1 => (if y1 = x1 then f99_30_4 a S x1 x2 x3 else (f46 a S x3).bind fun y3 => (if y3 = x1 then f99_30_4 a S x1 x2 x3 else f99_36_4 a S x1 x2 x3)))
theorem bt99_4 {L : Nat} {S : ov_S} {G : ov_L2} {a : Nat} {x1 : Int32} {x2 : Int32} {x3 : Int32} {P : Option Value → ov_S → ov_L2 → Prop} (ha : ov_Pl a) {out : (Int32 × Int32) ⊕ (Int32)} (h : b99_4 a S x1 x2 x3 = some out) (hk : ov_sm (σ := Int32 × Int32) (ε := (Int32)) (fun s => ov_J L 2 99 4 [some (.ref a), some (.int x1), some (.int s.1), some (.int s.2)] [] S G P) (fun e => ov_J L 2 99 42 [none, none, some (.int e), none] [] S G P) out) : ov_J L 2 99 4 [some (.ref a), some (.int x1), some (.int x2), some (.int x3)] [] S G P := by
  unfold b99_4 at h
  refine ev_iload_n od_99_4 rfl ?_
  refine ev_aload_n od_99_5 rfl ?_
  refine ev_gf (v := .int (S a 3)) og_99_6 (pl_O ha) (pl_v3 ha) ?_
  refine ev_icmp_ge (t := 42) od_99_9 (by decide) (fun hc6 => ?_) (fun hc6 => ?_)
  · rw [if_pos hc6] at h
    cases h
    refine ev_fg (lv0 := [none, none, some (.int x2), none]) (ov_le_n (ov_le_n (ov_le_s (ov_le_n (ov_le_e))))) ?_
    exact hk
  · rw [if_neg hc6] at h
    refine ev_aload_n od_99_12 rfl ?_
    refine ev_iload_n od_99_13 rfl ?_
    obtain ⟨y1, hy1, h⟩ := ov_bd h
    try dsimp only at h
    refine ev_cvi (y := 44) (n := 1) (a := a) (c := 2) (as := [.int x3]) (rest := []) (dc := 2) oc_99_14 rfl rfl rfl (pl_O ha) rfl rfl rfl rfl (by decide) (R44 ha hy1) ?_
    refine ev_iload_n od_99_17 rfl ?_
    refine ev_icmp_eq (t := 30) od_99_18 (by decide) (fun hc5 => ?_) (fun hc5 => ?_)
    · rw [if_pos hc5] at h
      exact t99_30_4 ha h hk
    · rw [if_neg hc5] at h
      refine ev_aload_n od_99_21 rfl ?_
      refine ev_iload_n od_99_22 rfl ?_
      obtain ⟨y3, hy3, h⟩ := ov_bd h
      try dsimp only at h
      refine ev_cvi (y := 46) (n := 1) (a := a) (c := 2) (as := [.int x3]) (rest := []) (dc := 2) oc_99_23 rfl rfl rfl (pl_O ha) rfl rfl rfl rfl (by decide) (R46 ha hy3) ?_
      refine ev_iload_n od_99_26 rfl ?_
      refine ev_icmp_ne (t := 36) od_99_27 (by decide) (fun hc4 => ?_) (fun hc4 => ?_)
      · rw [if_neg hc4] at h
        exact t99_36_4 ha h hk
      · rw [if_pos hc4] at h
        exact t99_30_4 ha h hk
def f99 (a : Nat) (S : ov_S) (x1 : Int32) : Option (Int32) :=
  ((ov_lp (fun s => b99_4 a S x1 s.1 s.2) 2000 ((0 : Int32), (0 : Int32))).bind fun e7 => some e7)
theorem t99 {L : Nat} {S : ov_S} {G : ov_L2} {a : Nat} {x1 : Int32} {P : Option Value → ov_S → ov_L2 → Prop} (ha : ov_Pl a) {out : Int32} (h : f99 a S x1 = some out) (hP : P (some (.int out)) S G) : ov_J L 2 99 0 [some (.ref a), some (.int x1), none, none] [] S G P := by
  unfold f99 at h
  refine ev_iconst (v := (0 : Int32)) od_99_0 (by decide) ?_
  refine ev_istore_n (lv1 := [some (.ref a), some (.int x1), some (.int (0 : Int32)), none]) od_99_1 rfl rfl ?_
  refine ev_iconst (v := (0 : Int32)) od_99_2 (by decide) ?_
  refine ev_istore_n (lv1 := [some (.ref a), some (.int x1), some (.int (0 : Int32)), some (.int (0 : Int32))]) od_99_3 rfl rfl ?_
  obtain ⟨e7, he7, h⟩ := ov_bd h
  try dsimp only at h
  refine ov_lp_S (body := (fun s => b99_4 a S x1 s.1 s.2)) (head := (fun s => ov_J L 2 99 4 [some (.ref a), some (.int x1), some (.int s.1), some (.int s.2)] [] S G P)) (exit := (fun e => ov_J L 2 99 42 [none, none, some (.int e), none] [] S G P)) (fun s r hb hk => bt99_4 ha hb hk) 2000 ((0 : Int32), (0 : Int32)) e7 he7 ?_
  show ov_J L 2 99 42 [none, none, some (.int e7), none] [] S G P
  refine ev_iload_n od_99_42 rfl ?_
  cases h
  exact ev_iret od_99_43 rfl hP
theorem R99 {L : Nat} {S : ov_S} {G : ov_L2} {a : Nat} {x1 : Int32} (ha : ov_Pl a) {out : Int32} (h : f99 a S x1 = some out) : ov_R L 3 99 [.ref a, .int x1] S G (some (.int out)) S G :=
  ov_Rof (t99 ha h ⟨rfl, rfl, rfl⟩)
-- 111 OE$Stage.barsBetween
def f111_100_38 (a : Nat) (S : ov_S) (x3 : Int32) (x5 : Int32) (s0 : Int32) : Option ((Int32 × Int32) ⊕ (Int32)) :=
  some (.inl (s0, (x5 + (1 : Int32))))
theorem t111_100_38 {L : Nat} {S : ov_S} {G : ov_L2} {a : Nat} {x3 : Int32} {x5 : Int32} {s0 : Int32} {P : Option Value → ov_S → ov_L2 → Prop} (ha : ov_St a) {out : (Int32 × Int32) ⊕ (Int32)} (h : f111_100_38 a S x3 x5 s0 = some out) (hk : ov_sm (σ := Int32 × Int32) (ε := (Int32)) (fun s => ov_J L 2 111 38 [some (.ref a), none, none, some (.int x3), some (.int s.1), some (.int s.2), none] [] S G P) (fun e => ov_J L 2 111 108 [none, none, none, none, some (.int e), none, none] [] S G P) out) : ov_J L 2 111 100 [some (.ref a), none, none, some (.int x3), none, some (.int x5), none] [.int s0] S G P := by
  unfold f111_100_38 at h
  refine ev_istore (lv1 := [some (.ref a), none, none, some (.int x3), some (.int s0), some (.int x5), none]) od_111_100 rfl rfl ?_
  refine ev_iinc (v := (x5 + (1 : Int32))) (lv1 := [some (.ref a), none, none, some (.int x3), some (.int s0), some (.int (x5 + (1 : Int32))), none]) od_111_102 rfl rfl rfl ?_
  refine ev_goto (t := 38) od_111_105 (by decide) ?_
  cases h
  exact hk
def f111_81_38 (a : Nat) (S : ov_S) (x3 : Int32) (x4 : Int32) (x5 : Int32) (s0 : Int32) : Option ((Int32 × Int32) ⊕ (Int32)) :=
  (if s0 = 0 then f111_100_38 a S x3 x5 x4 else (f27 x4 x5).bind fun y6 => f111_100_38 a S x3 x5 y6)
theorem t111_81_38 {L : Nat} {S : ov_S} {G : ov_L2} {a : Nat} {x3 : Int32} {x4 : Int32} {x5 : Int32} {s0 : Int32} {P : Option Value → ov_S → ov_L2 → Prop} (ha : ov_St a) {out : (Int32 × Int32) ⊕ (Int32)} (h : f111_81_38 a S x3 x4 x5 s0 = some out) (hk : ov_sm (σ := Int32 × Int32) (ε := (Int32)) (fun s => ov_J L 2 111 38 [some (.ref a), none, none, some (.int x3), some (.int s.1), some (.int s.2), none] [] S G P) (fun e => ov_J L 2 111 108 [none, none, none, none, some (.int e), none, none] [] S G P) out) : ov_J L 2 111 81 [some (.ref a), none, none, some (.int x3), some (.int x4), some (.int x5), none] [.int s0] S G P := by
  unfold f111_81_38 at h
  refine ev_istore (lv1 := [some (.ref a), none, none, some (.int x3), some (.int x4), some (.int x5), some (.int s0)]) od_111_81 rfl rfl ?_
  refine ev_iload od_111_83 rfl ?_
  refine ev_if_eq (t := 98) od_111_85 (by decide) (fun hc7 => ?_) (fun hc7 => ?_)
  · rw [if_pos hc7] at h
    refine ev_iload od_111_98 rfl ?_
    refine ev_fg (lv0 := [some (.ref a), none, none, some (.int x3), none, some (.int x5), none]) (ov_le_s (ov_le_n (ov_le_n (ov_le_s (ov_le_n (ov_le_s (ov_le_n (ov_le_e)))))))) ?_
    exact t111_100_38 ha h hk
  · rw [if_neg hc7] at h
    refine ev_iload od_111_88 rfl ?_
    refine ev_iload od_111_90 rfl ?_
    obtain ⟨y6, hy6, h⟩ := ov_bd h
    try dsimp only at h
    refine ev_csi (y := 27) (n := 2) (as := [.int x4, .int x5]) (rest := []) (dc := 1) oc_111_92 rfl rfl rfl rfl rfl (by decide) (R27  hy6) ?_
    refine ev_goto (t := 100) od_111_95 (by decide) ?_
    refine ev_fg (lv0 := [some (.ref a), none, none, some (.int x3), none, some (.int x5), none]) (ov_le_s (ov_le_n (ov_le_n (ov_le_s (ov_le_n (ov_le_s (ov_le_n (ov_le_e)))))))) ?_
    exact t111_100_38 ha h hk
def f111_80_38 (a : Nat) (S : ov_S) (x3 : Int32) (x4 : Int32) (x5 : Int32) : Option ((Int32 × Int32) ⊕ (Int32)) :=
  f111_81_38 a S x3 x4 x5 (0 : Int32)
theorem t111_80_38 {L : Nat} {S : ov_S} {G : ov_L2} {a : Nat} {x3 : Int32} {x4 : Int32} {x5 : Int32} {P : Option Value → ov_S → ov_L2 → Prop} (ha : ov_St a) {out : (Int32 × Int32) ⊕ (Int32)} (h : f111_80_38 a S x3 x4 x5 = some out) (hk : ov_sm (σ := Int32 × Int32) (ε := (Int32)) (fun s => ov_J L 2 111 38 [some (.ref a), none, none, some (.int x3), some (.int s.1), some (.int s.2), none] [] S G P) (fun e => ov_J L 2 111 108 [none, none, none, none, some (.int e), none, none] [] S G P) out) : ov_J L 2 111 80 [some (.ref a), none, none, some (.int x3), some (.int x4), some (.int x5), none] [] S G P := by
  unfold f111_80_38 at h
  refine ev_iconst (v := (0 : Int32)) od_111_80 (by decide) ?_
  exact t111_81_38 ha h hk
def b111_38 (a : Nat) (S : ov_S) (x3 : Int32) (x4 : Int32) (x5 : Int32) : Option ((Int32 × Int32) ⊕ (Int32)) :=
  (if (S 4 2) ≤ x5 then some (.inr x4) else (f64 4 S x5).bind fun y5 => (if y5 = (2 : Int32) then f111_80_38 a S x3 x4 x5 else (f35 a S x5).bind fun y8 => (f23 x3 y8).bind fun y9 => (if y9 = 0 then f111_80_38 a S x3 x4 x5 else f111_81_38 a S x3 x4 x5 (1 : Int32))))
theorem bt111_38 {L : Nat} {S : ov_S} {G : ov_L2} {a : Nat} {x3 : Int32} {x4 : Int32} {x5 : Int32} {P : Option Value → ov_S → ov_L2 → Prop} (ha : ov_St a) {out : (Int32 × Int32) ⊕ (Int32)} (h : b111_38 a S x3 x4 x5 = some out) (hk : ov_sm (σ := Int32 × Int32) (ε := (Int32)) (fun s => ov_J L 2 111 38 [some (.ref a), none, none, some (.int x3), some (.int s.1), some (.int s.2), none] [] S G P) (fun e => ov_J L 2 111 108 [none, none, none, none, some (.int e), none, none] [] S G P) out) : ov_J L 2 111 38 [some (.ref a), none, none, some (.int x3), some (.int x4), some (.int x5), none] [] S G P := by
  unfold b111_38 at h
  refine ev_iload od_111_38 rfl ?_
  refine ev_aload_n od_111_40 rfl ?_
  refine ev_gf (v := .ref 4) og_111_41 (st_O ha) (st_v0 ha) ?_
  refine ev_gf (v := .int (S 4 2)) og_111_44 oO_4 rfl ?_
  refine ev_icmp_ge (t := 108) od_111_47 (by decide) (fun hc12 => ?_) (fun hc12 => ?_)
  · rw [if_pos hc12] at h
    cases h
    refine ev_fg (lv0 := [none, none, none, none, some (.int x4), none, none]) (ov_le_n (ov_le_n (ov_le_n (ov_le_n (ov_le_s (ov_le_n (ov_le_n (ov_le_e)))))))) ?_
    exact hk
  · rw [if_neg hc12] at h
    refine ev_aload_n od_111_50 rfl ?_
    refine ev_gf (v := .ref 4) og_111_51 (st_O ha) (st_v0 ha) ?_
    refine ev_iload od_111_54 rfl ?_
    obtain ⟨y5, hy5, h⟩ := ov_bd h
    try dsimp only at h
    refine ev_cvi (y := 64) (n := 1) (a := 4) (c := 2) (as := [.int x5]) (rest := []) (dc := 2) oc_111_56 rfl rfl rfl oO_4 rfl rfl rfl rfl (by decide) (R64 oP_4 hy5) ?_
    refine ev_iconst (v := (2 : Int32)) od_111_59 (by decide) ?_
    refine ev_icmp_eq (t := 80) od_111_60 (by decide) (fun hc11 => ?_) (fun hc11 => ?_)
    · rw [if_pos hc11] at h
      exact t111_80_38 ha h hk
    · rw [if_neg hc11] at h
      refine ev_iload_n od_111_63 rfl ?_
      refine ev_aload_n od_111_64 rfl ?_
      refine ev_iload od_111_65 rfl ?_
      obtain ⟨y8, hy8, h⟩ := ov_bd h
      try dsimp only at h
      refine ev_cvi (y := 35) (n := 1) (a := a) (c := 3) (as := [.int x5]) (rest := [.int x3]) (dc := 2) oc_111_67 rfl rfl rfl (st_O ha) rfl rfl rfl rfl (by decide) (R35 ha hy8) ?_
      obtain ⟨y9, hy9, h⟩ := ov_bd h
      try dsimp only at h
      refine ev_csi (y := 23) (n := 2) (as := [.int x3, .int y8]) (rest := []) (dc := 1) oc_111_70 rfl rfl rfl rfl rfl (by decide) (R23  hy9) ?_
      refine ev_if_eq (t := 80) od_111_73 (by decide) (fun hc10 => ?_) (fun hc10 => ?_)
      · rw [if_pos hc10] at h
        exact t111_80_38 ha h hk
      · rw [if_neg hc10] at h
        refine ev_iconst (v := (1 : Int32)) od_111_76 (by decide) ?_
        refine ev_goto (t := 81) od_111_77 (by decide) ?_
        exact t111_81_38 ha h hk
def f111 (a : Nat) (S : ov_S) (x1 : Int32) (x2 : Int32) : Option (Int32) :=
  (f35 a S x1).bind fun y1 => (f35 a S x2).bind fun y2 => (f48 y1 y2).bind fun y3 => (if y3 = (-9 : Int32) then some (-9 : Int32) else (f43 a S).bind fun y4 => (if (y3 &&& y4) = 0 then ((ov_lp (fun s => b111_38 a S y3 s.1 s.2) 2000 ((0 : Int32), (0 : Int32))).bind fun e13 => some e13) else some (-9 : Int32)))
theorem t111 {L : Nat} {S : ov_S} {G : ov_L2} {a : Nat} {x1 : Int32} {x2 : Int32} {P : Option Value → ov_S → ov_L2 → Prop} (ha : ov_St a) {out : Int32} (h : f111 a S x1 x2 = some out) (hP : P (some (.int out)) S G) : ov_J L 2 111 0 [some (.ref a), some (.int x1), some (.int x2), none, none, none, none] [] S G P := by
  unfold f111 at h
  refine ev_aload_n od_111_0 rfl ?_
  refine ev_iload_n od_111_1 rfl ?_
  obtain ⟨y1, hy1, h⟩ := ov_bd h
  try dsimp only at h
  refine ev_cvi (y := 35) (n := 1) (a := a) (c := 3) (as := [.int x1]) (rest := []) (dc := 2) oc_111_2 rfl rfl rfl (st_O ha) rfl rfl rfl rfl (by decide) (R35 ha hy1) ?_
  refine ev_aload_n od_111_5 rfl ?_
  refine ev_iload_n od_111_6 rfl ?_
  obtain ⟨y2, hy2, h⟩ := ov_bd h
  try dsimp only at h
  refine ev_cvi (y := 35) (n := 1) (a := a) (c := 3) (as := [.int x2]) (rest := [.int y1]) (dc := 2) oc_111_7 rfl rfl rfl (st_O ha) rfl rfl rfl rfl (by decide) (R35 ha hy2) ?_
  obtain ⟨y3, hy3, h⟩ := ov_bd h
  try dsimp only at h
  refine ev_csi (y := 48) (n := 2) (as := [.int y1, .int y2]) (rest := []) (dc := 2) oc_111_10 rfl rfl rfl rfl rfl (by decide) (R48  hy3) ?_
  refine ev_istore_n (lv1 := [some (.ref a), some (.int x1), some (.int x2), some (.int y3), none, none, none]) od_111_13 rfl rfl ?_
  refine ev_iload_n od_111_14 rfl ?_
  refine ev_bipush (v := (-9 : Int32)) od_111_15 (by decide) ?_
  refine ev_icmp_eq (t := 29) od_111_17 (by decide) (fun hc15 => ?_) (fun hc15 => ?_)
  · rw [if_pos hc15] at h
    refine ev_bipush (v := (-9 : Int32)) od_111_29 (by decide) ?_
    cases h
    exact ev_iret od_111_31 rfl hP
  · rw [if_neg hc15] at h
    refine ev_iload_n od_111_20 rfl ?_
    refine ev_aload_n od_111_21 rfl ?_
    obtain ⟨y4, hy4, h⟩ := ov_bd h
    try dsimp only at h
    refine ev_cvi (y := 43) (n := 0) (a := a) (c := 3) (as := []) (rest := [.int y3]) (dc := 2) oc_111_22 rfl rfl rfl (st_O ha) rfl rfl rfl rfl (by decide) (R43 ha hy4) ?_
    refine ev_iand od_111_25 ?_
    refine ev_if_eq (t := 32) od_111_26 (by decide) (fun hc14 => ?_) (fun hc14 => ?_)
    · rw [if_pos hc14] at h
      refine ev_iconst (v := (0 : Int32)) od_111_32 (by decide) ?_
      refine ev_istore (lv1 := [some (.ref a), some (.int x1), some (.int x2), some (.int y3), some (.int (0 : Int32)), none, none]) od_111_33 rfl rfl ?_
      refine ev_iconst (v := (0 : Int32)) od_111_35 (by decide) ?_
      refine ev_istore (lv1 := [some (.ref a), some (.int x1), some (.int x2), some (.int y3), some (.int (0 : Int32)), some (.int (0 : Int32)), none]) od_111_36 rfl rfl ?_
      obtain ⟨e13, he13, h⟩ := ov_bd h
      try dsimp only at h
      refine ev_fg (lv0 := [some (.ref a), none, none, some (.int y3), some (.int (0 : Int32)), some (.int (0 : Int32)), none]) (ov_le_s (ov_le_n (ov_le_n (ov_le_s (ov_le_s (ov_le_s (ov_le_n (ov_le_e)))))))) ?_
      refine ov_lp_S (body := (fun s => b111_38 a S y3 s.1 s.2)) (head := (fun s => ov_J L 2 111 38 [some (.ref a), none, none, some (.int y3), some (.int s.1), some (.int s.2), none] [] S G P)) (exit := (fun e => ov_J L 2 111 108 [none, none, none, none, some (.int e), none, none] [] S G P)) (fun s r hb hk => bt111_38 ha hb hk) 2000 ((0 : Int32), (0 : Int32)) e13 he13 ?_
      show ov_J L 2 111 108 [none, none, none, none, some (.int e13), none, none] [] S G P
      refine ev_iload od_111_108 rfl ?_
      cases h
      exact ev_iret od_111_110 rfl hP
    · rw [if_neg hc14] at h
      refine ev_bipush (v := (-9 : Int32)) od_111_29 (by decide) ?_
      cases h
      exact ev_iret od_111_31 rfl hP
theorem R111 {L : Nat} {S : ov_S} {G : ov_L2} {a : Nat} {x1 : Int32} {x2 : Int32} (ha : ov_St a) {out : Int32} (h : f111 a S x1 x2 = some out) : ov_R L 3 111 [.ref a, .int x1, .int x2] S G (some (.int out)) S G :=
  ov_Rof (t111 ha h ⟨rfl, rfl, rfl⟩)
