-- 184 OEModel.enter
def f184 (S : ov_S) (x1 : Int32) (x2 : Int32) : Option (Int32 × ov_S) :=
  (f175 (ov_up S 42 0 (0 : Int32)) x1).bind fun y1 => (if y1 = 0 then (f172 (ov_up S 42 0 (0 : Int32)) x2).bind fun y2 => (if y2 = 0 then (f185 55 (ov_up S 42 0 (0 : Int32)) x1 x2).bind fun y3 => (if y3 = 0 then some ((-3 : Int32), (ov_up S 42 0 (0 : Int32))) else (f187 (ov_up S 42 0 (0 : Int32))).bind fun y4 => ov_ck (ov_ibb x2 3) (ov_ck (ov_ibb ((0 : Int32) + x1) 12) (ov_ck (ov_ibb x2 3) (some (((ov_up y4 55 (((0 : Int32) + x1)).toNatClampNeg (y4 44 (x2).toNatClampNeg)) 44 (x2).toNatClampNeg), (ov_up y4 55 (((0 : Int32) + x1)).toNatClampNeg (y4 44 (x2).toNatClampNeg))))))) else some ((-1 : Int32), (ov_up S 42 0 (0 : Int32)))) else some ((-1 : Int32), (ov_up S 42 0 (0 : Int32))))
theorem t184 {L : Nat} {S : ov_S} {G : ov_L2} {x1 : Int32} {x2 : Int32} {P : Option Value → ov_S → ov_L2 → Prop}  {out : Int32 × ov_S} (h : f184 S x1 x2 = some out) (hP : P (some (.int out.1)) out.2 G) : ov_J L 4 184 0 [some (.ref 42), some (.int x1), some (.int x2)] [] S G P := by
  unfold f184 at h
  refine ev_aload_n od_184_0 rfl ?_
  refine ev_iconst (v := (0 : Int32)) od_184_1 (by decide) ?_
  refine ev_pf op_184_2 oO_42 rfl rfl ?_
  refine ev_aload_n od_184_5 rfl ?_
  refine ev_iload_n od_184_6 rfl ?_
  obtain ⟨y1, hy1, h⟩ := ov_bd h
  try dsimp only at h
  refine ev_cvi (y := 175) (n := 1) (a := 42) (c := 8) (as := [.int x1]) (rest := []) (dc := 2) oc_184_7 rfl rfl rfl oO_42 rfl rfl rfl rfl (by decide) (R175  hy1) ?_
  refine ev_if_ne (t := 21) od_184_10 (by decide) (fun hc10 => ?_) (fun hc10 => ?_)
  · rw [if_neg hc10] at h
    refine ev_iconst (v := (-1 : Int32)) od_184_21 (by decide) ?_
    cases h
    exact ev_iret od_184_22 rfl hP
  · rw [if_pos hc10] at h
    refine ev_aload_n od_184_13 rfl ?_
    refine ev_iload_n od_184_14 rfl ?_
    obtain ⟨y2, hy2, h⟩ := ov_bd h
    try dsimp only at h
    refine ev_cvi (y := 172) (n := 1) (a := 42) (c := 8) (as := [.int x2]) (rest := []) (dc := 2) oc_184_15 rfl rfl rfl oO_42 rfl rfl rfl rfl (by decide) (R172  hy2) ?_
    refine ev_if_eq (t := 23) od_184_18 (by decide) (fun hc9 => ?_) (fun hc9 => ?_)
    · rw [if_pos hc9] at h
      refine ev_aload_n od_184_23 rfl ?_
      refine ev_aload_n od_184_24 rfl ?_
      refine ev_gf (v := .ref 55) og_184_25 oO_42 rfl ?_
      refine ev_iload_n od_184_28 rfl ?_
      refine ev_iload_n od_184_29 rfl ?_
      obtain ⟨y3, hy3, h⟩ := ov_bd h
      try dsimp only at h
      refine ev_cvi (y := 185) (n := 3) (a := 42) (c := 8) (as := [.ref 55, .int x1, .int x2]) (rest := []) (dc := 4) oc_184_30 rfl rfl rfl oO_42 rfl rfl rfl rfl (by decide) (R185 oA_55 hy3) ?_
      refine ev_if_ne (t := 39) od_184_33 (by decide) (fun hc8 => ?_) (fun hc8 => ?_)
      · rw [if_neg hc8] at h
        refine ev_aload_n od_184_39 rfl ?_
        obtain ⟨y4, hy4, h⟩ := ov_bd h
        try dsimp only at h
        refine ev_cvv (y := 187) (n := 0) (a := 42) (c := 8) (as := []) (rest := []) (dc := 1) oc_184_40 rfl rfl rfl oO_42 rfl rfl rfl rfl (by decide) (R187  hy4) ?_
        refine ev_aload_n od_184_43 rfl ?_
        refine ev_gf (v := .ref 55) og_184_44 oO_42 rfl ?_
        refine ev_iconst (v := (0 : Int32)) od_184_47 (by decide) ?_
        refine ev_iload_n od_184_48 rfl ?_
        refine ev_iadd od_184_49 ?_
        refine ev_aload_n od_184_50 rfl ?_
        refine ev_gf (v := .ref 44) og_184_51 oO_42 rfl ?_
        refine ev_iload_n od_184_54 rfl ?_
        obtain ⟨bq5, h⟩ := ov_ck_ok h
        refine ev_iald od_184_55 oA_44 (ov_ibk bq5) ?_
        obtain ⟨bq6, h⟩ := ov_ck_ok h
        refine ev_iast od_184_56 oA_55 (ov_ibk bq6) ?_
        refine ev_aload_n od_184_57 rfl ?_
        refine ev_gf (v := .ref 44) og_184_58 oO_42 rfl ?_
        refine ev_iload_n od_184_61 rfl ?_
        obtain ⟨bq7, h⟩ := ov_ck_ok h
        refine ev_iald od_184_62 oA_44 (ov_ibk bq7) ?_
        cases h
        exact ev_iret od_184_63 rfl hP
      · rw [if_pos hc8] at h
        refine ev_bipush (v := (-3 : Int32)) od_184_36 (by decide) ?_
        cases h
        exact ev_iret od_184_38 rfl hP
    · rw [if_neg hc9] at h
      refine ev_iconst (v := (-1 : Int32)) od_184_21 (by decide) ?_
      cases h
      exact ev_iret od_184_22 rfl hP
theorem R184 {L : Nat} {S : ov_S} {G : ov_L2} {x1 : Int32} {x2 : Int32}  {out : Int32 × ov_S} (h : f184 S x1 x2 = some out) : ov_R L 5 184 [.ref 42, .int x1, .int x2] S G (some (.int out.1)) out.2 G :=
  ov_Rof (t184  h ⟨rfl, rfl, rfl⟩)
-- 188 OEModel.walk
def f188 (S : ov_S) (x1 : Int32) (x2 : Int32) : Option (Int32 × ov_S) :=
  (f175 (ov_up S 42 0 (0 : Int32)) x1).bind fun y1 => (if y1 = 0 then (f144 (x2).toInt64 (0 : Int64) (3 : Int64)).bind fun y3 => (if y3 = 0 then some ((-2 : Int32), (ov_up S 42 0 (0 : Int32))) else (f189 55 (ov_up S 42 0 (0 : Int32)) x1 x2).bind fun y4 => (if y4 = (-9 : Int32) then some ((-3 : Int32), (ov_up S 42 0 (0 : Int32))) else (f187 (ov_up S 42 0 (0 : Int32))).bind fun y5 => ov_ck (ov_ibb ((0 : Int32) + x1) 12) (some (y4, (ov_up y5 55 (((0 : Int32) + x1)).toNatClampNeg y4))))) else some ((-1 : Int32), (ov_up S 42 0 (0 : Int32))))
theorem t188 {L : Nat} {S : ov_S} {G : ov_L2} {x1 : Int32} {x2 : Int32} {P : Option Value → ov_S → ov_L2 → Prop}  {out : Int32 × ov_S} (h : f188 S x1 x2 = some out) (hP : P (some (.int out.1)) out.2 G) : ov_J L 4 188 0 [some (.ref 42), some (.int x1), some (.int x2), none] [] S G P := by
  unfold f188 at h
  refine ev_aload_n od_188_0 rfl ?_
  refine ev_iconst (v := (0 : Int32)) od_188_1 (by decide) ?_
  refine ev_pf op_188_2 oO_42 rfl rfl ?_
  refine ev_aload_n od_188_5 rfl ?_
  refine ev_iload_n od_188_6 rfl ?_
  obtain ⟨y1, hy1, h⟩ := ov_bd h
  try dsimp only at h
  refine ev_cvi (y := 175) (n := 1) (a := 42) (c := 8) (as := [.int x1]) (rest := []) (dc := 2) oc_188_7 rfl rfl rfl oO_42 rfl rfl rfl rfl (by decide) (R175  hy1) ?_
  refine ev_if_eq (t := 15) od_188_10 (by decide) (fun hc9 => ?_) (fun hc9 => ?_)
  · rw [if_pos hc9] at h
    refine ev_iload_n od_188_15 rfl ?_
    refine ev_i2l od_188_16 ?_
    refine ev_lconst (v := (0 : Int64)) od_188_17 (by decide) ?_
    obtain ⟨w2, hw2⟩ := ok_188_18
    refine ev_ldc2_w od_188_18 hw2 ?_
    obtain ⟨y3, hy3, h⟩ := ov_bd h
    try dsimp only at h
    refine ev_csi (y := 144) (n := 3) (as := [.long (x2).toInt64, .long (0 : Int64), .long (3 : Int64)]) (rest := []) (dc := 1) oc_188_21 rfl rfl rfl rfl rfl (by decide) (R144  hy3) ?_
    refine ev_if_ne (t := 30) od_188_24 (by decide) (fun hc8 => ?_) (fun hc8 => ?_)
    · rw [if_neg hc8] at h
      refine ev_aload_n od_188_30 rfl ?_
      refine ev_aload_n od_188_31 rfl ?_
      refine ev_gf (v := .ref 55) og_188_32 oO_42 rfl ?_
      refine ev_iload_n od_188_35 rfl ?_
      refine ev_iload_n od_188_36 rfl ?_
      obtain ⟨y4, hy4, h⟩ := ov_bd h
      try dsimp only at h
      refine ev_cvi (y := 189) (n := 3) (a := 42) (c := 8) (as := [.ref 55, .int x1, .int x2]) (rest := []) (dc := 4) oc_188_37 rfl rfl rfl oO_42 rfl rfl rfl rfl (by decide) (R189 oA_55 hy4) ?_
      refine ev_istore_n (lv1 := [some (.ref 42), some (.int x1), some (.int x2), some (.int y4)]) od_188_40 rfl rfl ?_
      refine ev_iload_n od_188_41 rfl ?_
      refine ev_bipush (v := (-9 : Int32)) od_188_42 (by decide) ?_
      refine ev_icmp_ne (t := 50) od_188_44 (by decide) (fun hc7 => ?_) (fun hc7 => ?_)
      · rw [if_neg hc7] at h
        refine ev_aload_n od_188_50 rfl ?_
        obtain ⟨y5, hy5, h⟩ := ov_bd h
        try dsimp only at h
        refine ev_cvv (y := 187) (n := 0) (a := 42) (c := 8) (as := []) (rest := []) (dc := 1) oc_188_51 rfl rfl rfl oO_42 rfl rfl rfl rfl (by decide) (R187  hy5) ?_
        refine ev_aload_n od_188_54 rfl ?_
        refine ev_gf (v := .ref 55) og_188_55 oO_42 rfl ?_
        refine ev_iconst (v := (0 : Int32)) od_188_58 (by decide) ?_
        refine ev_iload_n od_188_59 rfl ?_
        refine ev_iadd od_188_60 ?_
        refine ev_iload_n od_188_61 rfl ?_
        obtain ⟨bq6, h⟩ := ov_ck_ok h
        refine ev_iast od_188_62 oA_55 (ov_ibk bq6) ?_
        refine ev_iload_n od_188_63 rfl ?_
        cases h
        exact ev_iret od_188_64 rfl hP
      · rw [if_pos hc7] at h
        refine ev_bipush (v := (-3 : Int32)) od_188_47 (by decide) ?_
        cases h
        exact ev_iret od_188_49 rfl hP
    · rw [if_pos hc8] at h
      refine ev_bipush (v := (-2 : Int32)) od_188_27 (by decide) ?_
      cases h
      exact ev_iret od_188_29 rfl hP
  · rw [if_neg hc9] at h
    refine ev_iconst (v := (-1 : Int32)) od_188_13 (by decide) ?_
    cases h
    exact ev_iret od_188_14 rfl hP
theorem R188 {L : Nat} {S : ov_S} {G : ov_L2} {x1 : Int32} {x2 : Int32}  {out : Int32 × ov_S} (h : f188 S x1 x2 = some out) : ov_R L 5 188 [.ref 42, .int x1, .int x2] S G (some (.int out.1)) out.2 G :=
  ov_Rof (t188  h ⟨rfl, rfl, rfl⟩)
-- 190 OEModel.say
def f190 (S : ov_S) (x1 : Int32) : Option (Int32 × ov_S) :=
  (f144 (x1).toInt64 (0 : Int64) ((((ov_up S 42 0 (0 : Int32)) 42 10) - (1 : Int32))).toInt64).bind fun y1 => (if y1 = 0 then some ((-1 : Int32), (ov_up S 42 0 (0 : Int32))) else (f164 55 (ov_up S 42 0 (0 : Int32)) x1).bind fun y2 => (if y2 = 0 then some ((-3 : Int32), (ov_up S 42 0 (0 : Int32))) else (f187 (ov_up S 42 0 (0 : Int32))).bind fun y3 => (f191 ((ov_up y3 55 ((6 : Int32)).toNatClampNeg ((y3 55 ((6 : Int32)).toNatClampNeg) ||| ((1 : Int32) <<< (x1 &&& 31)))) 55 ((6 : Int32)).toNatClampNeg)).bind fun y4 => some (y4, (ov_up y3 55 ((6 : Int32)).toNatClampNeg ((y3 55 ((6 : Int32)).toNatClampNeg) ||| ((1 : Int32) <<< (x1 &&& 31)))))))
theorem t190 {L : Nat} {S : ov_S} {G : ov_L2} {x1 : Int32} {P : Option Value → ov_S → ov_L2 → Prop}  {out : Int32 × ov_S} (h : f190 S x1 = some out) (hP : P (some (.int out.1)) out.2 G) : ov_J L 4 190 0 [some (.ref 42), some (.int x1)] [] S G P := by
  unfold f190 at h
  refine ev_aload_n od_190_0 rfl ?_
  refine ev_iconst (v := (0 : Int32)) od_190_1 (by decide) ?_
  refine ev_pf op_190_2 oO_42 rfl rfl ?_
  refine ev_iload_n od_190_5 rfl ?_
  refine ev_i2l od_190_6 ?_
  refine ev_lconst (v := (0 : Int64)) od_190_7 (by decide) ?_
  refine ev_aload_n od_190_8 rfl ?_
  refine ev_gf (v := .int ((ov_up S 42 0 (0 : Int32)) 42 10)) og_190_9 oO_42 rfl ?_
  refine ev_iconst (v := (1 : Int32)) od_190_12 (by decide) ?_
  refine ev_isub od_190_13 ?_
  refine ev_i2l od_190_14 ?_
  obtain ⟨y1, hy1, h⟩ := ov_bd h
  try dsimp only at h
  refine ev_csi (y := 144) (n := 3) (as := [.long (x1).toInt64, .long (0 : Int64), .long ((((ov_up S 42 0 (0 : Int32)) 42 10) - (1 : Int32))).toInt64]) (rest := []) (dc := 1) oc_190_15 rfl rfl rfl rfl rfl (by decide) (R144  hy1) ?_
  refine ev_if_ne (t := 23) od_190_18 (by decide) (fun hc6 => ?_) (fun hc6 => ?_)
  · rw [if_neg hc6] at h
    refine ev_aload_n od_190_23 rfl ?_
    refine ev_aload_n od_190_24 rfl ?_
    refine ev_gf (v := .ref 55) og_190_25 oO_42 rfl ?_
    refine ev_iload_n od_190_28 rfl ?_
    obtain ⟨y2, hy2, h⟩ := ov_bd h
    try dsimp only at h
    refine ev_cvi (y := 164) (n := 2) (a := 42) (c := 8) (as := [.ref 55, .int x1]) (rest := []) (dc := 4) oc_190_29 rfl rfl rfl oO_42 rfl rfl rfl rfl (by decide) (R164 oA_55 hy2) ?_
    refine ev_if_ne (t := 38) od_190_32 (by decide) (fun hc5 => ?_) (fun hc5 => ?_)
    · rw [if_neg hc5] at h
      refine ev_aload_n od_190_38 rfl ?_
      obtain ⟨y3, hy3, h⟩ := ov_bd h
      try dsimp only at h
      refine ev_cvv (y := 187) (n := 0) (a := 42) (c := 8) (as := []) (rest := []) (dc := 1) oc_190_39 rfl rfl rfl oO_42 rfl rfl rfl rfl (by decide) (R187  hy3) ?_
      refine ev_aload_n od_190_42 rfl ?_
      refine ev_gf (v := .ref 55) og_190_43 oO_42 rfl ?_
      refine ev_bipush (v := (6 : Int32)) od_190_46 (by decide) ?_
      refine ev_dup2 od_190_48 rfl rfl ?_
      refine ev_iald od_190_49 oA_55 (ov_ibk (by decide)) ?_
      refine ev_iconst (v := (1 : Int32)) od_190_50 (by decide) ?_
      refine ev_iload_n od_190_51 rfl ?_
      refine ev_ishl od_190_52 ?_
      refine ev_ior od_190_53 ?_
      refine ev_iast od_190_54 oA_55 (ov_ibk (by decide)) ?_
      refine ev_aload_n od_190_55 rfl ?_
      refine ev_gf (v := .ref 55) og_190_56 oO_42 rfl ?_
      refine ev_bipush (v := (6 : Int32)) od_190_59 (by decide) ?_
      refine ev_iald od_190_61 oA_55 (ov_ibk (by decide)) ?_
      obtain ⟨y4, hy4, h⟩ := ov_bd h
      try dsimp only at h
      refine ev_csi (y := 191) (n := 1) (as := [.int ((ov_up y3 55 ((6 : Int32)).toNatClampNeg ((y3 55 ((6 : Int32)).toNatClampNeg) ||| ((1 : Int32) <<< (x1 &&& 31)))) 55 ((6 : Int32)).toNatClampNeg)]) (rest := []) (dc := 1) oc_190_62 rfl rfl rfl rfl rfl (by decide) (R191  hy4) ?_
      cases h
      exact ev_iret od_190_65 rfl hP
    · rw [if_pos hc5] at h
      refine ev_bipush (v := (-3 : Int32)) od_190_35 (by decide) ?_
      cases h
      exact ev_iret od_190_37 rfl hP
  · rw [if_pos hc6] at h
    refine ev_iconst (v := (-1 : Int32)) od_190_21 (by decide) ?_
    cases h
    exact ev_iret od_190_22 rfl hP
theorem R190 {L : Nat} {S : ov_S} {G : ov_L2} {x1 : Int32}  {out : Int32 × ov_S} (h : f190 S x1 = some out) : ov_R L 5 190 [.ref 42, .int x1] S G (some (.int out.1)) out.2 G :=
  ov_Rof (t190  h ⟨rfl, rfl, rfl⟩)
-- 199 OEModel.heardOf
def f199_50_4 (S : ov_S) (x1 : Int32) (x3 : Int32) (s0 : Int32) (s1 : Int32) : Option ((Int32 × Int32) ⊕ (Int32)) :=
  some (.inl ((s1 + s0), (x3 + (1 : Int32))))
theorem t199_50_4 {L : Nat} {S : ov_S} {G : ov_L2} {x1 : Int32} {x3 : Int32} {s0 : Int32} {s1 : Int32} {P : Option Value → ov_S → ov_L2 → Prop}  {out : (Int32 × Int32) ⊕ (Int32)} (h : f199_50_4 S x1 x3 s0 s1 = some out) (hk : ov_sm (σ := Int32 × Int32) (ε := (Int32)) (fun s => ov_J L 4 199 4 [some (.ref 42), some (.int x1), some (.int s.1), some (.int s.2)] [] S G P) (fun e => ov_J L 4 199 58 [none, none, some (.int e), none] [] S G P) out) : ov_J L 4 199 50 [some (.ref 42), some (.int x1), none, some (.int x3)] [.int s0, .int s1] S G P := by
  unfold f199_50_4 at h
  refine ev_iadd od_199_50 ?_
  refine ev_istore_n (lv1 := [some (.ref 42), some (.int x1), some (.int (s1 + s0)), some (.int x3)]) od_199_51 rfl rfl ?_
  refine ev_iinc (v := (x3 + (1 : Int32))) (lv1 := [some (.ref 42), some (.int x1), some (.int (s1 + s0)), some (.int (x3 + (1 : Int32)))]) od_199_52 rfl rfl rfl ?_
  refine ev_goto (t := 4) od_199_55 (by decide) ?_
  cases h
  exact hk
def f199_49_4 (S : ov_S) (x1 : Int32) (x3 : Int32) (s0 : Int32) : Option ((Int32 × Int32) ⊕ (Int32)) :=
  f199_50_4 S x1 x3 (0 : Int32) s0
theorem t199_49_4 {L : Nat} {S : ov_S} {G : ov_L2} {x1 : Int32} {x3 : Int32} {s0 : Int32} {P : Option Value → ov_S → ov_L2 → Prop}  {out : (Int32 × Int32) ⊕ (Int32)} (h : f199_49_4 S x1 x3 s0 = some out) (hk : ov_sm (σ := Int32 × Int32) (ε := (Int32)) (fun s => ov_J L 4 199 4 [some (.ref 42), some (.int x1), some (.int s.1), some (.int s.2)] [] S G P) (fun e => ov_J L 4 199 58 [none, none, some (.int e), none] [] S G P) out) : ov_J L 4 199 49 [some (.ref 42), some (.int x1), none, some (.int x3)] [.int s0] S G P := by
  unfold f199_49_4 at h
  refine ev_iconst (v := (0 : Int32)) od_199_49 (by decide) ?_
  exact t199_50_4  h hk
def f199_33_4 (S : ov_S) (x1 : Int32) (x3 : Int32) (s0 : Int32) : Option ((Int32 × Int32) ⊕ (Int32)) :=
  (f164 56 S x3).bind fun y2 => (if y2 = 0 then f199_49_4 S x1 x3 s0 else f199_50_4 S x1 x3 (1 : Int32) s0)
theorem t199_33_4 {L : Nat} {S : ov_S} {G : ov_L2} {x1 : Int32} {x3 : Int32} {s0 : Int32} {P : Option Value → ov_S → ov_L2 → Prop}  {out : (Int32 × Int32) ⊕ (Int32)} (h : f199_33_4 S x1 x3 s0 = some out) (hk : ov_sm (σ := Int32 × Int32) (ε := (Int32)) (fun s => ov_J L 4 199 4 [some (.ref 42), some (.int x1), some (.int s.1), some (.int s.2)] [] S G P) (fun e => ov_J L 4 199 58 [none, none, some (.int e), none] [] S G P) out) : ov_J L 4 199 33 [some (.ref 42), some (.int x1), none, some (.int x3)] [.int s0] S G P := by
  unfold f199_33_4 at h
  refine ev_aload_n od_199_33 rfl ?_
  refine ev_aload_n od_199_34 rfl ?_
  refine ev_gf (v := .ref 56) og_199_35 oO_42 rfl ?_
  refine ev_iload_n od_199_38 rfl ?_
  obtain ⟨y2, hy2, h⟩ := ov_bd h
  try dsimp only at h
  refine ev_cvi (y := 164) (n := 2) (a := 42) (c := 8) (as := [.ref 56, .int x3]) (rest := [.int s0]) (dc := 4) oc_199_39 rfl rfl rfl oO_42 rfl rfl rfl rfl (by decide) (R164 oA_56 hy2) ?_
  refine ev_if_eq (t := 49) od_199_42 (by decide) (fun hc3 => ?_) (fun hc3 => ?_)
  · rw [if_pos hc3] at h
    exact t199_49_4  h hk
  · rw [if_neg hc3] at h
    refine ev_iconst (v := (1 : Int32)) od_199_45 (by decide) ?_
    refine ev_goto (t := 50) od_199_46 (by decide) ?_
    exact t199_50_4  h hk
def b199_4 (S : ov_S) (x1 : Int32) (x2 : Int32) (x3 : Int32) : Option ((Int32 × Int32) ⊕ (Int32)) :=
  (if (S 42 10) ≤ x3 then some (.inr x2) else ov_ck (ov_ibb x3 6) ((if (S 47 (x3).toNatClampNeg) = x1 then f199_33_4 S x1 x3 x2 else ov_ck (ov_ibb x3 6) ((if (S 48 (x3).toNatClampNeg) = x1 then f199_33_4 S x1 x3 x2 else f199_49_4 S x1 x3 x2)))))
theorem bt199_4 {L : Nat} {S : ov_S} {G : ov_L2} {x1 : Int32} {x2 : Int32} {x3 : Int32} {P : Option Value → ov_S → ov_L2 → Prop}  {out : (Int32 × Int32) ⊕ (Int32)} (h : b199_4 S x1 x2 x3 = some out) (hk : ov_sm (σ := Int32 × Int32) (ε := (Int32)) (fun s => ov_J L 4 199 4 [some (.ref 42), some (.int x1), some (.int s.1), some (.int s.2)] [] S G P) (fun e => ov_J L 4 199 58 [none, none, some (.int e), none] [] S G P) out) : ov_J L 4 199 4 [some (.ref 42), some (.int x1), some (.int x2), some (.int x3)] [] S G P := by
  unfold b199_4 at h
  refine ev_iload_n od_199_4 rfl ?_
  refine ev_aload_n od_199_5 rfl ?_
  refine ev_gf (v := .int (S 42 10)) og_199_6 oO_42 rfl ?_
  refine ev_icmp_ge (t := 58) od_199_9 (by decide) (fun hc7 => ?_) (fun hc7 => ?_)
  · rw [if_pos hc7] at h
    cases h
    refine ev_fg (lv0 := [none, none, some (.int x2), none]) (ov_le_n (ov_le_n (ov_le_s (ov_le_n (ov_le_e))))) ?_
    exact hk
  · rw [if_neg hc7] at h
    refine ev_iload_n od_199_12 rfl ?_
    refine ev_aload_n od_199_13 rfl ?_
    refine ev_gf (v := .ref 47) og_199_14 oO_42 rfl ?_
    refine ev_iload_n od_199_17 rfl ?_
    obtain ⟨bq1, h⟩ := ov_ck_ok h
    refine ev_iald od_199_18 oA_47 (ov_ibk bq1) ?_
    refine ev_iload_n od_199_19 rfl ?_
    refine ev_icmp_eq (t := 33) od_199_20 (by decide) (fun hc6 => ?_) (fun hc6 => ?_)
    · rw [if_pos hc6] at h
      refine ev_fg (lv0 := [some (.ref 42), some (.int x1), none, some (.int x3)]) (ov_le_s (ov_le_s (ov_le_n (ov_le_s (ov_le_e))))) ?_
      exact t199_33_4  h hk
    · rw [if_neg hc6] at h
      refine ev_aload_n od_199_23 rfl ?_
      refine ev_gf (v := .ref 48) og_199_24 oO_42 rfl ?_
      refine ev_iload_n od_199_27 rfl ?_
      obtain ⟨bq4, h⟩ := ov_ck_ok h
      refine ev_iald od_199_28 oA_48 (ov_ibk bq4) ?_
      refine ev_iload_n od_199_29 rfl ?_
      refine ev_icmp_ne (t := 49) od_199_30 (by decide) (fun hc5 => ?_) (fun hc5 => ?_)
      · rw [if_neg hc5] at h
        refine ev_fg (lv0 := [some (.ref 42), some (.int x1), none, some (.int x3)]) (ov_le_s (ov_le_s (ov_le_n (ov_le_s (ov_le_e))))) ?_
        exact t199_49_4  h hk
      · rw [if_pos hc5] at h
        refine ev_fg (lv0 := [some (.ref 42), some (.int x1), none, some (.int x3)]) (ov_le_s (ov_le_s (ov_le_n (ov_le_s (ov_le_e))))) ?_
        exact t199_33_4  h hk
def f199 (S : ov_S) (x1 : Int32) : Option (Int32) :=
  ((ov_lp (fun s => b199_4 S x1 s.1 s.2) 2000 ((0 : Int32), (0 : Int32))).bind fun e8 => some e8)
theorem t199 {L : Nat} {S : ov_S} {G : ov_L2} {x1 : Int32} {P : Option Value → ov_S → ov_L2 → Prop}  {out : Int32} (h : f199 S x1 = some out) (hP : P (some (.int out)) S G) : ov_J L 4 199 0 [some (.ref 42), some (.int x1), none, none] [] S G P := by
  unfold f199 at h
  refine ev_iconst (v := (0 : Int32)) od_199_0 (by decide) ?_
  refine ev_istore_n (lv1 := [some (.ref 42), some (.int x1), some (.int (0 : Int32)), none]) od_199_1 rfl rfl ?_
  refine ev_iconst (v := (0 : Int32)) od_199_2 (by decide) ?_
  refine ev_istore_n (lv1 := [some (.ref 42), some (.int x1), some (.int (0 : Int32)), some (.int (0 : Int32))]) od_199_3 rfl rfl ?_
  obtain ⟨e8, he8, h⟩ := ov_bd h
  try dsimp only at h
  refine ov_lp_S (body := (fun s => b199_4 S x1 s.1 s.2)) (head := (fun s => ov_J L 4 199 4 [some (.ref 42), some (.int x1), some (.int s.1), some (.int s.2)] [] S G P)) (exit := (fun e => ov_J L 4 199 58 [none, none, some (.int e), none] [] S G P)) (fun s r hb hk => bt199_4  hb hk) 2000 ((0 : Int32), (0 : Int32)) e8 he8 ?_
  show ov_J L 4 199 58 [none, none, some (.int e8), none] [] S G P
  refine ev_iload_n od_199_58 rfl ?_
  cases h
  exact ev_iret od_199_59 rfl hP
theorem R199 {L : Nat} {S : ov_S} {G : ov_L2} {x1 : Int32}  {out : Int32} (h : f199 S x1 = some out) : ov_R L 5 199 [.ref 42, .int x1] S G (some (.int out)) S G :=
  ov_Rof (t199  h ⟨rfl, rfl, rfl⟩)
-- 201 OEModel.come
def f201_125_53 (S : ov_S) (x1 : Int32) (x3 : Int32) (x4 : Int32) (x5 : Int32) : Option ((Int32 × Int32 × Int32 × ov_S) ⊕ (Int32 × Int32 × ov_S)) :=
  some (.inl (x3, x4, (x5 + (1 : Int32)), S))
theorem t201_125_53 {L : Nat} {S : ov_S} {G : ov_L2} {x1 : Int32} {x3 : Int32} {x4 : Int32} {x5 : Int32} {P : Option Value → ov_S → ov_L2 → Prop}  {out : (Int32 × Int32 × Int32 × ov_S) ⊕ (Int32 × Int32 × ov_S)} (h : f201_125_53 S x1 x3 x4 x5 = some out) (hk : ov_sm (σ := Int32 × Int32 × Int32 × ov_S) (ε := (Int32 × Int32 × ov_S)) (fun s => ov_J L 4 201 53 [some (.ref 42), some (.int x1), none, some (.int s.1), some (.int s.2.1), some (.int s.2.2.1)] [] s.2.2.2 G P) (fun e => ov_J L 4 201 131 [some (.ref 42), some (.int x1), none, some (.int e.1), some (.int e.2.1), none] [] e.2.2 G P) out) : ov_J L 4 201 125 [some (.ref 42), some (.int x1), none, some (.int x3), some (.int x4), some (.int x5)] [] S G P := by
  unfold f201_125_53 at h
  refine ev_iinc (v := (x5 + (1 : Int32))) (lv1 := [some (.ref 42), some (.int x1), none, some (.int x3), some (.int x4), some (.int (x5 + (1 : Int32)))]) od_201_125 rfl rfl rfl ?_
  refine ev_goto (t := 53) od_201_128 (by decide) ?_
  cases h
  exact hk
def f201_113_53 (S : ov_S) (x1 : Int32) (x5 : Int32) : Option ((Int32 × Int32 × Int32 × ov_S) ⊕ (Int32 × Int32 × ov_S)) :=
  ov_ck (ov_ibb x5 18) (f201_125_53 S x1 x5 (S 63 (x5).toNatClampNeg) x5)
theorem t201_113_53 {L : Nat} {S : ov_S} {G : ov_L2} {x1 : Int32} {x5 : Int32} {P : Option Value → ov_S → ov_L2 → Prop}  {out : (Int32 × Int32 × Int32 × ov_S) ⊕ (Int32 × Int32 × ov_S)} (h : f201_113_53 S x1 x5 = some out) (hk : ov_sm (σ := Int32 × Int32 × Int32 × ov_S) (ε := (Int32 × Int32 × ov_S)) (fun s => ov_J L 4 201 53 [some (.ref 42), some (.int x1), none, some (.int s.1), some (.int s.2.1), some (.int s.2.2.1)] [] s.2.2.2 G P) (fun e => ov_J L 4 201 131 [some (.ref 42), some (.int x1), none, some (.int e.1), some (.int e.2.1), none] [] e.2.2 G P) out) : ov_J L 4 201 113 [some (.ref 42), some (.int x1), none, none, none, some (.int x5)] [] S G P := by
  unfold f201_113_53 at h
  refine ev_iload od_201_113 rfl ?_
  refine ev_istore_n (lv1 := [some (.ref 42), some (.int x1), none, some (.int x5), none, some (.int x5)]) od_201_115 rfl rfl ?_
  refine ev_aload_n od_201_116 rfl ?_
  refine ev_gf (v := .ref 63) og_201_117 oO_42 rfl ?_
  refine ev_iload od_201_120 rfl ?_
  obtain ⟨bq9, h⟩ := ov_ck_ok h
  refine ev_iald od_201_122 oA_63 (ov_ibk bq9) ?_
  refine ev_istore (lv1 := [some (.ref 42), some (.int x1), none, some (.int x5), some (.int (S 63 (x5).toNatClampNeg)), some (.int x5)]) od_201_123 rfl rfl ?_
  exact t201_125_53  h hk
def b201_53 (x1 : Int32) (x3 : Int32) (x4 : Int32) (x5 : Int32) (S : ov_S) : Option ((Int32 × Int32 × Int32 × ov_S) ⊕ (Int32 × Int32 × ov_S)) :=
  (if (18 : Int32) ≤ x5 then some (.inr (x3, x4, S)) else ov_ck (ov_ibb ((0 : Int32) + x1) 12) (ov_ck (ov_ibb x5 18) ((if ((ov_up S 56 (((0 : Int32) + x1)).toNatClampNeg x5) 63 (x5).toNatClampNeg) = (-9 : Int32) then f201_125_53 (ov_up S 56 (((0 : Int32) + x1)).toNatClampNeg x5) x1 x3 x4 x5 else (f162 56 (ov_up S 56 (((0 : Int32) + x1)).toNatClampNeg x5) x1).bind fun y8 => (if y8 = 0 then f201_125_53 (ov_up S 56 (((0 : Int32) + x1)).toNatClampNeg x5) x1 x3 x4 x5 else (if x4 = (-9 : Int32) then f201_113_53 (ov_up S 56 (((0 : Int32) + x1)).toNatClampNeg x5) x1 x5 else ov_ck (ov_ibb x5 18) ((if x4 ≤ ((ov_up S 56 (((0 : Int32) + x1)).toNatClampNeg x5) 63 (x5).toNatClampNeg) then f201_125_53 (ov_up S 56 (((0 : Int32) + x1)).toNatClampNeg x5) x1 x3 x4 x5 else f201_113_53 (ov_up S 56 (((0 : Int32) + x1)).toNatClampNeg x5) x1 x5))))))))
theorem bt201_53 {L : Nat} {S : ov_S} {G : ov_L2} {x1 : Int32} {x3 : Int32} {x4 : Int32} {x5 : Int32} {P : Option Value → ov_S → ov_L2 → Prop}  {out : (Int32 × Int32 × Int32 × ov_S) ⊕ (Int32 × Int32 × ov_S)} (h : b201_53 x1 x3 x4 x5 S = some out) (hk : ov_sm (σ := Int32 × Int32 × Int32 × ov_S) (ε := (Int32 × Int32 × ov_S)) (fun s => ov_J L 4 201 53 [some (.ref 42), some (.int x1), none, some (.int s.1), some (.int s.2.1), some (.int s.2.2.1)] [] s.2.2.2 G P) (fun e => ov_J L 4 201 131 [some (.ref 42), some (.int x1), none, some (.int e.1), some (.int e.2.1), none] [] e.2.2 G P) out) : ov_J L 4 201 53 [some (.ref 42), some (.int x1), none, some (.int x3), some (.int x4), some (.int x5)] [] S G P := by
  unfold b201_53 at h
  refine ev_iload od_201_53 rfl ?_
  refine ev_bipush (v := (18 : Int32)) od_201_55 (by decide) ?_
  refine ev_icmp_ge (t := 131) od_201_57 (by decide) (fun hc15 => ?_) (fun hc15 => ?_)
  · rw [if_pos hc15] at h
    cases h
    refine ev_fg (lv0 := [some (.ref 42), some (.int x1), none, some (.int x3), some (.int x4), none]) (ov_le_s (ov_le_s (ov_le_n (ov_le_s (ov_le_s (ov_le_n (ov_le_e))))))) ?_
    exact hk
  · rw [if_neg hc15] at h
    refine ev_aload_n od_201_60 rfl ?_
    refine ev_gf (v := .ref 56) og_201_61 oO_42 rfl ?_
    refine ev_iconst (v := (0 : Int32)) od_201_64 (by decide) ?_
    refine ev_iload_n od_201_65 rfl ?_
    refine ev_iadd od_201_66 ?_
    refine ev_iload od_201_67 rfl ?_
    obtain ⟨bq6, h⟩ := ov_ck_ok h
    refine ev_iast od_201_69 oA_56 (ov_ibk bq6) ?_
    refine ev_aload_n od_201_70 rfl ?_
    refine ev_gf (v := .ref 63) og_201_71 oO_42 rfl ?_
    refine ev_iload od_201_74 rfl ?_
    obtain ⟨bq7, h⟩ := ov_ck_ok h
    refine ev_iald od_201_76 oA_63 (ov_ibk bq7) ?_
    refine ev_bipush (v := (-9 : Int32)) od_201_77 (by decide) ?_
    refine ev_icmp_eq (t := 125) od_201_79 (by decide) (fun hc14 => ?_) (fun hc14 => ?_)
    · rw [if_pos hc14] at h
      exact t201_125_53  h hk
    · rw [if_neg hc14] at h
      refine ev_aload_n od_201_82 rfl ?_
      refine ev_aload_n od_201_83 rfl ?_
      refine ev_gf (v := .ref 56) og_201_84 oO_42 rfl ?_
      refine ev_iload_n od_201_87 rfl ?_
      obtain ⟨y8, hy8, h⟩ := ov_bd h
      try dsimp only at h
      refine ev_cvi (y := 162) (n := 2) (a := 42) (c := 8) (as := [.ref 56, .int x1]) (rest := []) (dc := 1) oc_201_88 rfl rfl rfl oO_42 rfl rfl rfl rfl (by decide) (R162 oA_56 hy8) ?_
      refine ev_if_eq (t := 125) od_201_91 (by decide) (fun hc13 => ?_) (fun hc13 => ?_)
      · rw [if_pos hc13] at h
        exact t201_125_53  h hk
      · rw [if_neg hc13] at h
        refine ev_iload od_201_94 rfl ?_
        refine ev_bipush (v := (-9 : Int32)) od_201_96 (by decide) ?_
        refine ev_icmp_eq (t := 113) od_201_98 (by decide) (fun hc12 => ?_) (fun hc12 => ?_)
        · rw [if_pos hc12] at h
          refine ev_fg (lv0 := [some (.ref 42), some (.int x1), none, none, none, some (.int x5)]) (ov_le_s (ov_le_s (ov_le_n (ov_le_n (ov_le_n (ov_le_s (ov_le_e))))))) ?_
          exact t201_113_53  h hk
        · rw [if_neg hc12] at h
          refine ev_aload_n od_201_101 rfl ?_
          refine ev_gf (v := .ref 63) og_201_102 oO_42 rfl ?_
          refine ev_iload od_201_105 rfl ?_
          obtain ⟨bq10, h⟩ := ov_ck_ok h
          refine ev_iald od_201_107 oA_63 (ov_ibk bq10) ?_
          refine ev_iload od_201_108 rfl ?_
          refine ev_icmp_ge (t := 125) od_201_110 (by decide) (fun hc11 => ?_) (fun hc11 => ?_)
          · rw [if_pos hc11] at h
            exact t201_125_53  h hk
          · rw [if_neg hc11] at h
            refine ev_fg (lv0 := [some (.ref 42), some (.int x1), none, none, none, some (.int x5)]) (ov_le_s (ov_le_s (ov_le_n (ov_le_n (ov_le_n (ov_le_s (ov_le_e))))))) ?_
            exact t201_113_53  h hk
def f201 (S : ov_S) (x1 : Int32) (x2 : Int32) : Option (Int32 × ov_S) :=
  (f185 56 S x1 x2).bind fun y1 => (if y1 = 0 then some ((-9 : Int32), S) else ov_ck (ov_ibb x2 3) (ov_ck (ov_ibb ((0 : Int32) + x1) 12) ((f178 56 (ov_up S 56 (((0 : Int32) + x1)).toNatClampNeg (S 44 (x2).toNatClampNeg)) x1).bind fun y4 => ov_ck (ov_ibb x2 3) (((ov_lp (fun s => b201_53 x1 s.1 s.2.1 s.2.2.1 s.2.2.2) 2000 ((y4 44 (x2).toNatClampNeg), (-9 : Int32), (0 : Int32), y4)).bind fun e16 => ov_ck (ov_ibb ((0 : Int32) + x1) 12) ((if e16.2.1 = (-9 : Int32) then some ((0 : Int32), (ov_up e16.2.2 56 (((0 : Int32) + x1)).toNatClampNeg e16.1)) else some (e16.2.1, (ov_up e16.2.2 56 (((0 : Int32) + x1)).toNatClampNeg e16.1)))))))))
theorem t201 {L : Nat} {S : ov_S} {G : ov_L2} {x1 : Int32} {x2 : Int32} {P : Option Value → ov_S → ov_L2 → Prop}  {out : Int32 × ov_S} (h : f201 S x1 x2 = some out) (hP : P (some (.int out.1)) out.2 G) : ov_J L 4 201 0 [some (.ref 42), some (.int x1), some (.int x2), none, none, none] [] S G P := by
  unfold f201 at h
  refine ev_aload_n od_201_0 rfl ?_
  refine ev_aload_n od_201_1 rfl ?_
  refine ev_gf (v := .ref 56) og_201_2 oO_42 rfl ?_
  refine ev_iload_n od_201_5 rfl ?_
  refine ev_iload_n od_201_6 rfl ?_
  obtain ⟨y1, hy1, h⟩ := ov_bd h
  try dsimp only at h
  refine ev_cvi (y := 185) (n := 3) (a := 42) (c := 8) (as := [.ref 56, .int x1, .int x2]) (rest := []) (dc := 4) oc_201_7 rfl rfl rfl oO_42 rfl rfl rfl rfl (by decide) (R185 oA_56 hy1) ?_
  refine ev_if_ne (t := 16) od_201_10 (by decide) (fun hc19 => ?_) (fun hc19 => ?_)
  · rw [if_neg hc19] at h
    refine ev_aload_n od_201_16 rfl ?_
    refine ev_gf (v := .ref 56) og_201_17 oO_42 rfl ?_
    refine ev_iconst (v := (0 : Int32)) od_201_20 (by decide) ?_
    refine ev_iload_n od_201_21 rfl ?_
    refine ev_iadd od_201_22 ?_
    refine ev_aload_n od_201_23 rfl ?_
    refine ev_gf (v := .ref 44) og_201_24 oO_42 rfl ?_
    refine ev_iload_n od_201_27 rfl ?_
    obtain ⟨bq2, h⟩ := ov_ck_ok h
    refine ev_iald od_201_28 oA_44 (ov_ibk bq2) ?_
    obtain ⟨bq3, h⟩ := ov_ck_ok h
    refine ev_iast od_201_29 oA_56 (ov_ibk bq3) ?_
    refine ev_aload_n od_201_30 rfl ?_
    refine ev_aload_n od_201_31 rfl ?_
    refine ev_gf (v := .ref 56) og_201_32 oO_42 rfl ?_
    refine ev_iload_n od_201_35 rfl ?_
    obtain ⟨y4, hy4, h⟩ := ov_bd h
    try dsimp only at h
    refine ev_cvv (y := 178) (n := 2) (a := 42) (c := 8) (as := [.ref 56, .int x1]) (rest := []) (dc := 3) oc_201_36 rfl rfl rfl oO_42 rfl rfl rfl rfl (by decide) (R178 oA_56 hy4) ?_
    refine ev_aload_n od_201_39 rfl ?_
    refine ev_gf (v := .ref 44) og_201_40 oO_42 rfl ?_
    refine ev_iload_n od_201_43 rfl ?_
    obtain ⟨bq5, h⟩ := ov_ck_ok h
    refine ev_iald od_201_44 oA_44 (ov_ibk bq5) ?_
    refine ev_istore_n (lv1 := [some (.ref 42), some (.int x1), some (.int x2), some (.int (y4 44 (x2).toNatClampNeg)), none, none]) od_201_45 rfl rfl ?_
    refine ev_bipush (v := (-9 : Int32)) od_201_46 (by decide) ?_
    refine ev_istore (lv1 := [some (.ref 42), some (.int x1), some (.int x2), some (.int (y4 44 (x2).toNatClampNeg)), some (.int (-9 : Int32)), none]) od_201_48 rfl rfl ?_
    refine ev_iconst (v := (0 : Int32)) od_201_50 (by decide) ?_
    refine ev_istore (lv1 := [some (.ref 42), some (.int x1), some (.int x2), some (.int (y4 44 (x2).toNatClampNeg)), some (.int (-9 : Int32)), some (.int (0 : Int32))]) od_201_51 rfl rfl ?_
    obtain ⟨e16, he16, h⟩ := ov_bd h
    try dsimp only at h
    refine ev_fg (lv0 := [some (.ref 42), some (.int x1), none, some (.int (y4 44 (x2).toNatClampNeg)), some (.int (-9 : Int32)), some (.int (0 : Int32))]) (ov_le_s (ov_le_s (ov_le_n (ov_le_s (ov_le_s (ov_le_s (ov_le_e))))))) ?_
    refine ov_lp_S (body := (fun s => b201_53 x1 s.1 s.2.1 s.2.2.1 s.2.2.2)) (head := (fun s => ov_J L 4 201 53 [some (.ref 42), some (.int x1), none, some (.int s.1), some (.int s.2.1), some (.int s.2.2.1)] [] s.2.2.2 G P)) (exit := (fun e => ov_J L 4 201 131 [some (.ref 42), some (.int x1), none, some (.int e.1), some (.int e.2.1), none] [] e.2.2 G P)) (fun s r hb hk => bt201_53  hb hk) 2000 ((y4 44 (x2).toNatClampNeg), (-9 : Int32), (0 : Int32), y4) e16 he16 ?_
    show ov_J L 4 201 131 [some (.ref 42), some (.int x1), none, some (.int e16.1), some (.int e16.2.1), none] [] e16.2.2 G P
    refine ev_aload_n od_201_131 rfl ?_
    refine ev_gf (v := .ref 56) og_201_132 oO_42 rfl ?_
    refine ev_iconst (v := (0 : Int32)) od_201_135 (by decide) ?_
    refine ev_iload_n od_201_136 rfl ?_
    refine ev_iadd od_201_137 ?_
    refine ev_iload_n od_201_138 rfl ?_
    obtain ⟨bq17, h⟩ := ov_ck_ok h
    refine ev_iast od_201_139 oA_56 (ov_ibk bq17) ?_
    refine ev_iload od_201_140 rfl ?_
    refine ev_bipush (v := (-9 : Int32)) od_201_142 (by decide) ?_
    refine ev_icmp_ne (t := 151) od_201_144 (by decide) (fun hc18 => ?_) (fun hc18 => ?_)
    · rw [if_neg hc18] at h
      refine ev_iload od_201_151 rfl ?_
      cases h
      exact ev_iret od_201_153 rfl hP
    · rw [if_pos hc18] at h
      refine ev_iconst (v := (0 : Int32)) od_201_147 (by decide) ?_
      refine ev_goto (t := 153) od_201_148 (by decide) ?_
      cases h
      exact ev_iret od_201_153 rfl hP
  · rw [if_pos hc19] at h
    refine ev_bipush (v := (-9 : Int32)) od_201_13 (by decide) ?_
    cases h
    exact ev_iret od_201_15 rfl hP
theorem R201 {L : Nat} {S : ov_S} {G : ov_L2} {x1 : Int32} {x2 : Int32}  {out : Int32 × ov_S} (h : f201 S x1 x2 = some out) : ov_R L 5 201 [.ref 42, .int x1, .int x2] S G (some (.int out.1)) out.2 G :=
  ov_Rof (t201  h ⟨rfl, rfl, rfl⟩)
-- 210 OEModel.does
def f210_128 (S : ov_S) (x2 : Int32) (x3 : Int32) (x4 : Int32) : Option (Int32 × ov_S) :=
  (if x2 = (3 : Int32) then (if x3 = 0 then (if (S 42 10) ≤ x4 then some ((0 : Int32), S) else (f164 56 S x4).bind fun y1 => (if y1 = 0 then some ((0 : Int32), S) else some ((1 : Int32), (ov_up S 56 ((6 : Int32)).toNatClampNeg ((S 56 ((6 : Int32)).toNatClampNeg) ||| ((1 : Int32) <<< (x4 &&& 31))))))) else some ((0 : Int32), S)) else some ((0 : Int32), S))
theorem t210_128 {L : Nat} {S : ov_S} {G : ov_L2} {x2 : Int32} {x3 : Int32} {x4 : Int32} {P : Option Value → ov_S → ov_L2 → Prop}  {out : Int32 × ov_S} (h : f210_128 S x2 x3 x4 = some out) (hP : P (some (.int out.1)) out.2 G) : ov_J L 4 210 128 [some (.ref 42), none, some (.int x2), some (.int x3), some (.int x4)] [] S G P := by
  unfold f210_128 at h
  refine ev_iload_n od_210_128 rfl ?_
  refine ev_iconst (v := (3 : Int32)) od_210_129 (by decide) ?_
  refine ev_icmp_ne (t := 159) od_210_130 (by decide) (fun hc5 => ?_) (fun hc5 => ?_)
  · rw [if_neg hc5] at h
    refine ev_iconst (v := (0 : Int32)) od_210_159 (by decide) ?_
    cases h
    exact ev_zret od_210_160 rfl (by decide) hP
  · rw [if_pos hc5] at h
    refine ev_iload_n od_210_133 rfl ?_
    refine ev_if_ne (t := 159) od_210_134 (by decide) (fun hc4 => ?_) (fun hc4 => ?_)
    · rw [if_neg hc4] at h
      refine ev_iconst (v := (0 : Int32)) od_210_159 (by decide) ?_
      cases h
      exact ev_zret od_210_160 rfl (by decide) hP
    · rw [if_pos hc4] at h
      refine ev_iload od_210_137 rfl ?_
      refine ev_aload_n od_210_139 rfl ?_
      refine ev_gf (v := .int (S 42 10)) og_210_140 oO_42 rfl ?_
      refine ev_icmp_ge (t := 159) od_210_143 (by decide) (fun hc3 => ?_) (fun hc3 => ?_)
      · rw [if_pos hc3] at h
        refine ev_iconst (v := (0 : Int32)) od_210_159 (by decide) ?_
        cases h
        exact ev_zret od_210_160 rfl (by decide) hP
      · rw [if_neg hc3] at h
        refine ev_aload_n od_210_146 rfl ?_
        refine ev_aload_n od_210_147 rfl ?_
        refine ev_gf (v := .ref 56) og_210_148 oO_42 rfl ?_
        refine ev_iload od_210_151 rfl ?_
        obtain ⟨y1, hy1, h⟩ := ov_bd h
        try dsimp only at h
        refine ev_cvi (y := 164) (n := 2) (a := 42) (c := 8) (as := [.ref 56, .int x4]) (rest := []) (dc := 4) oc_210_153 rfl rfl rfl oO_42 rfl rfl rfl rfl (by decide) (R164 oA_56 hy1) ?_
        refine ev_if_ne (t := 161) od_210_156 (by decide) (fun hc2 => ?_) (fun hc2 => ?_)
        · rw [if_neg hc2] at h
          refine ev_aload_n od_210_161 rfl ?_
          refine ev_gf (v := .ref 56) og_210_162 oO_42 rfl ?_
          refine ev_bipush (v := (6 : Int32)) od_210_165 (by decide) ?_
          refine ev_dup2 od_210_167 rfl rfl ?_
          refine ev_iald od_210_168 oA_56 (ov_ibk (by decide)) ?_
          refine ev_iconst (v := (1 : Int32)) od_210_169 (by decide) ?_
          refine ev_iload od_210_170 rfl ?_
          refine ev_ishl od_210_172 ?_
          refine ev_ior od_210_173 ?_
          refine ev_iast od_210_174 oA_56 (ov_ibk (by decide)) ?_
          refine ev_iconst (v := (1 : Int32)) od_210_175 (by decide) ?_
          cases h
          exact ev_zret od_210_176 rfl (by decide) hP
        · rw [if_pos hc2] at h
          refine ev_iconst (v := (0 : Int32)) od_210_159 (by decide) ?_
          cases h
          exact ev_zret od_210_160 rfl (by decide) hP
def f210_72 (S : ov_S) (x2 : Int32) (x3 : Int32) (x4 : Int32) : Option (Int32 × ov_S) :=
  (if x2 = (2 : Int32) then (f175 S x3).bind fun y6 => (if y6 = 0 then (if (4 : Int32) ≤ x4 then f210_128 S x2 x3 x4 else (f189 56 S x3 x4).bind fun y7 => (if y7 = (-9 : Int32) then f210_128 S x2 x3 x4 else (f189 56 S x3 x4).bind fun y8 => ov_ck (ov_ibb ((0 : Int32) + x3) 12) (some ((1 : Int32), (ov_up S 56 (((0 : Int32) + x3)).toNatClampNeg y8))))) else f210_128 S x2 x3 x4) else f210_128 S x2 x3 x4)
theorem t210_72 {L : Nat} {S : ov_S} {G : ov_L2} {x2 : Int32} {x3 : Int32} {x4 : Int32} {P : Option Value → ov_S → ov_L2 → Prop}  {out : Int32 × ov_S} (h : f210_72 S x2 x3 x4 = some out) (hP : P (some (.int out.1)) out.2 G) : ov_J L 4 210 72 [some (.ref 42), none, some (.int x2), some (.int x3), some (.int x4)] [] S G P := by
  unfold f210_72 at h
  refine ev_iload_n od_210_72 rfl ?_
  refine ev_iconst (v := (2 : Int32)) od_210_73 (by decide) ?_
  refine ev_icmp_ne (t := 128) od_210_74 (by decide) (fun hc13 => ?_) (fun hc13 => ?_)
  · rw [if_neg hc13] at h
    exact t210_128  h hP
  · rw [if_pos hc13] at h
    refine ev_aload_n od_210_77 rfl ?_
    refine ev_iload_n od_210_78 rfl ?_
    obtain ⟨y6, hy6, h⟩ := ov_bd h
    try dsimp only at h
    refine ev_cvi (y := 175) (n := 1) (a := 42) (c := 8) (as := [.int x3]) (rest := []) (dc := 2) oc_210_79 rfl rfl rfl oO_42 rfl rfl rfl rfl (by decide) (R175  hy6) ?_
    refine ev_if_ne (t := 128) od_210_82 (by decide) (fun hc12 => ?_) (fun hc12 => ?_)
    · rw [if_neg hc12] at h
      exact t210_128  h hP
    · rw [if_pos hc12] at h
      refine ev_iload od_210_85 rfl ?_
      refine ev_iconst (v := (4 : Int32)) od_210_87 (by decide) ?_
      refine ev_icmp_ge (t := 128) od_210_88 (by decide) (fun hc11 => ?_) (fun hc11 => ?_)
      · rw [if_pos hc11] at h
        exact t210_128  h hP
      · rw [if_neg hc11] at h
        refine ev_aload_n od_210_91 rfl ?_
        refine ev_aload_n od_210_92 rfl ?_
        refine ev_gf (v := .ref 56) og_210_93 oO_42 rfl ?_
        refine ev_iload_n od_210_96 rfl ?_
        refine ev_iload od_210_97 rfl ?_
        obtain ⟨y7, hy7, h⟩ := ov_bd h
        try dsimp only at h
        refine ev_cvi (y := 189) (n := 3) (a := 42) (c := 8) (as := [.ref 56, .int x3, .int x4]) (rest := []) (dc := 4) oc_210_99 rfl rfl rfl oO_42 rfl rfl rfl rfl (by decide) (R189 oA_56 hy7) ?_
        refine ev_bipush (v := (-9 : Int32)) od_210_102 (by decide) ?_
        refine ev_icmp_eq (t := 128) od_210_104 (by decide) (fun hc10 => ?_) (fun hc10 => ?_)
        · rw [if_pos hc10] at h
          exact t210_128  h hP
        · rw [if_neg hc10] at h
          refine ev_aload_n od_210_107 rfl ?_
          refine ev_gf (v := .ref 56) og_210_108 oO_42 rfl ?_
          refine ev_iconst (v := (0 : Int32)) od_210_111 (by decide) ?_
          refine ev_iload_n od_210_112 rfl ?_
          refine ev_iadd od_210_113 ?_
          refine ev_aload_n od_210_114 rfl ?_
          refine ev_aload_n od_210_115 rfl ?_
          refine ev_gf (v := .ref 56) og_210_116 oO_42 rfl ?_
          refine ev_iload_n od_210_119 rfl ?_
          refine ev_iload od_210_120 rfl ?_
          obtain ⟨y8, hy8, h⟩ := ov_bd h
          try dsimp only at h
          refine ev_cvi (y := 189) (n := 3) (a := 42) (c := 8) (as := [.ref 56, .int x3, .int x4]) (rest := [.int ((0 : Int32) + x3), .ref 56]) (dc := 4) oc_210_122 rfl rfl rfl oO_42 rfl rfl rfl rfl (by decide) (R189 oA_56 hy8) ?_
          obtain ⟨bq9, h⟩ := ov_ck_ok h
          refine ev_iast od_210_125 oA_56 (ov_ibk bq9) ?_
          refine ev_iconst (v := (1 : Int32)) od_210_126 (by decide) ?_
          cases h
          exact ev_zret od_210_127 rfl (by decide) hP
def f210 (S : ov_S) (x1 : Int32) : Option (Int32 × ov_S) :=
  (if (x1 / (100 : Int32)) = (1 : Int32) then (f175 S ((x1 / (10 : Int32)) - (x1 / (10 : Int32)) / (10 : Int32) * (10 : Int32))).bind fun y14 => (if y14 = 0 then (f172 S (x1 - x1 / (10 : Int32) * (10 : Int32))).bind fun y15 => (if y15 = 0 then (f185 56 S ((x1 / (10 : Int32)) - (x1 / (10 : Int32)) / (10 : Int32) * (10 : Int32)) (x1 - x1 / (10 : Int32) * (10 : Int32))).bind fun y16 => (if y16 = 0 then f210_72 S (x1 / (100 : Int32)) ((x1 / (10 : Int32)) - (x1 / (10 : Int32)) / (10 : Int32) * (10 : Int32)) (x1 - x1 / (10 : Int32) * (10 : Int32)) else ov_ck (ov_ibb (x1 - x1 / (10 : Int32) * (10 : Int32)) 3) (ov_ck (ov_ibb ((0 : Int32) + ((x1 / (10 : Int32)) - (x1 / (10 : Int32)) / (10 : Int32) * (10 : Int32))) 12) (some ((1 : Int32), (ov_up S 56 (((0 : Int32) + ((x1 / (10 : Int32)) - (x1 / (10 : Int32)) / (10 : Int32) * (10 : Int32)))).toNatClampNeg (S 44 ((x1 - x1 / (10 : Int32) * (10 : Int32))).toNatClampNeg)))))) else f210_72 S (x1 / (100 : Int32)) ((x1 / (10 : Int32)) - (x1 / (10 : Int32)) / (10 : Int32) * (10 : Int32)) (x1 - x1 / (10 : Int32) * (10 : Int32))) else f210_72 S (x1 / (100 : Int32)) ((x1 / (10 : Int32)) - (x1 / (10 : Int32)) / (10 : Int32) * (10 : Int32)) (x1 - x1 / (10 : Int32) * (10 : Int32))) else f210_72 S (x1 / (100 : Int32)) ((x1 / (10 : Int32)) - (x1 / (10 : Int32)) / (10 : Int32) * (10 : Int32)) (x1 - x1 / (10 : Int32) * (10 : Int32)))
theorem t210 {L : Nat} {S : ov_S} {G : ov_L2} {x1 : Int32} {P : Option Value → ov_S → ov_L2 → Prop}  {out : Int32 × ov_S} (h : f210 S x1 = some out) (hP : P (some (.int out.1)) out.2 G) : ov_J L 4 210 0 [some (.ref 42), some (.int x1), none, none, none] [] S G P := by
  unfold f210 at h
  refine ev_iload_n od_210_0 rfl ?_
  refine ev_bipush (v := (100 : Int32)) od_210_1 (by decide) ?_
  refine ev_idiv od_210_3 (by decide) ?_
  refine ev_istore_n (lv1 := [some (.ref 42), some (.int x1), some (.int (x1 / (100 : Int32))), none, none]) od_210_4 rfl rfl ?_
  refine ev_iload_n od_210_5 rfl ?_
  refine ev_bipush (v := (10 : Int32)) od_210_6 (by decide) ?_
  refine ev_idiv od_210_8 (by decide) ?_
  refine ev_bipush (v := (10 : Int32)) od_210_9 (by decide) ?_
  refine ev_irem od_210_11 (by decide) ?_
  refine ev_istore_n (lv1 := [some (.ref 42), some (.int x1), some (.int (x1 / (100 : Int32))), some (.int ((x1 / (10 : Int32)) - (x1 / (10 : Int32)) / (10 : Int32) * (10 : Int32))), none]) od_210_12 rfl rfl ?_
  refine ev_iload_n od_210_13 rfl ?_
  refine ev_bipush (v := (10 : Int32)) od_210_14 (by decide) ?_
  refine ev_irem od_210_16 (by decide) ?_
  refine ev_istore (lv1 := [some (.ref 42), some (.int x1), some (.int (x1 / (100 : Int32))), some (.int ((x1 / (10 : Int32)) - (x1 / (10 : Int32)) / (10 : Int32) * (10 : Int32))), some (.int (x1 - x1 / (10 : Int32) * (10 : Int32)))]) od_210_17 rfl rfl ?_
  refine ev_iload_n od_210_19 rfl ?_
  refine ev_iconst (v := (1 : Int32)) od_210_20 (by decide) ?_
  refine ev_icmp_ne (t := 72) od_210_21 (by decide) (fun hc22 => ?_) (fun hc22 => ?_)
  · rw [if_neg hc22] at h
    refine ev_fg (lv0 := [some (.ref 42), none, some (.int (x1 / (100 : Int32))), some (.int ((x1 / (10 : Int32)) - (x1 / (10 : Int32)) / (10 : Int32) * (10 : Int32))), some (.int (x1 - x1 / (10 : Int32) * (10 : Int32)))]) (ov_le_s (ov_le_n (ov_le_s (ov_le_s (ov_le_s (ov_le_e)))))) ?_
    exact t210_72  h hP
  · rw [if_pos hc22] at h
    refine ev_aload_n od_210_24 rfl ?_
    refine ev_iload_n od_210_25 rfl ?_
    obtain ⟨y14, hy14, h⟩ := ov_bd h
    try dsimp only at h
    refine ev_cvi (y := 175) (n := 1) (a := 42) (c := 8) (as := [.int ((x1 / (10 : Int32)) - (x1 / (10 : Int32)) / (10 : Int32) * (10 : Int32))]) (rest := []) (dc := 2) oc_210_26 rfl rfl rfl oO_42 rfl rfl rfl rfl (by decide) (R175  hy14) ?_
    refine ev_if_ne (t := 72) od_210_29 (by decide) (fun hc21 => ?_) (fun hc21 => ?_)
    · rw [if_neg hc21] at h
      refine ev_fg (lv0 := [some (.ref 42), none, some (.int (x1 / (100 : Int32))), some (.int ((x1 / (10 : Int32)) - (x1 / (10 : Int32)) / (10 : Int32) * (10 : Int32))), some (.int (x1 - x1 / (10 : Int32) * (10 : Int32)))]) (ov_le_s (ov_le_n (ov_le_s (ov_le_s (ov_le_s (ov_le_e)))))) ?_
      exact t210_72  h hP
    · rw [if_pos hc21] at h
      refine ev_aload_n od_210_32 rfl ?_
      refine ev_iload od_210_33 rfl ?_
      obtain ⟨y15, hy15, h⟩ := ov_bd h
      try dsimp only at h
      refine ev_cvi (y := 172) (n := 1) (a := 42) (c := 8) (as := [.int (x1 - x1 / (10 : Int32) * (10 : Int32))]) (rest := []) (dc := 2) oc_210_35 rfl rfl rfl oO_42 rfl rfl rfl rfl (by decide) (R172  hy15) ?_
      refine ev_if_ne (t := 72) od_210_38 (by decide) (fun hc20 => ?_) (fun hc20 => ?_)
      · rw [if_neg hc20] at h
        refine ev_fg (lv0 := [some (.ref 42), none, some (.int (x1 / (100 : Int32))), some (.int ((x1 / (10 : Int32)) - (x1 / (10 : Int32)) / (10 : Int32) * (10 : Int32))), some (.int (x1 - x1 / (10 : Int32) * (10 : Int32)))]) (ov_le_s (ov_le_n (ov_le_s (ov_le_s (ov_le_s (ov_le_e)))))) ?_
        exact t210_72  h hP
      · rw [if_pos hc20] at h
        refine ev_aload_n od_210_41 rfl ?_
        refine ev_aload_n od_210_42 rfl ?_
        refine ev_gf (v := .ref 56) og_210_43 oO_42 rfl ?_
        refine ev_iload_n od_210_46 rfl ?_
        refine ev_iload od_210_47 rfl ?_
        obtain ⟨y16, hy16, h⟩ := ov_bd h
        try dsimp only at h
        refine ev_cvi (y := 185) (n := 3) (a := 42) (c := 8) (as := [.ref 56, .int ((x1 / (10 : Int32)) - (x1 / (10 : Int32)) / (10 : Int32) * (10 : Int32)), .int (x1 - x1 / (10 : Int32) * (10 : Int32))]) (rest := []) (dc := 4) oc_210_49 rfl rfl rfl oO_42 rfl rfl rfl rfl (by decide) (R185 oA_56 hy16) ?_
        refine ev_if_eq (t := 72) od_210_52 (by decide) (fun hc19 => ?_) (fun hc19 => ?_)
        · rw [if_pos hc19] at h
          refine ev_fg (lv0 := [some (.ref 42), none, some (.int (x1 / (100 : Int32))), some (.int ((x1 / (10 : Int32)) - (x1 / (10 : Int32)) / (10 : Int32) * (10 : Int32))), some (.int (x1 - x1 / (10 : Int32) * (10 : Int32)))]) (ov_le_s (ov_le_n (ov_le_s (ov_le_s (ov_le_s (ov_le_e)))))) ?_
          exact t210_72  h hP
        · rw [if_neg hc19] at h
          refine ev_aload_n od_210_55 rfl ?_
          refine ev_gf (v := .ref 56) og_210_56 oO_42 rfl ?_
          refine ev_iconst (v := (0 : Int32)) od_210_59 (by decide) ?_
          refine ev_iload_n od_210_60 rfl ?_
          refine ev_iadd od_210_61 ?_
          refine ev_aload_n od_210_62 rfl ?_
          refine ev_gf (v := .ref 44) og_210_63 oO_42 rfl ?_
          refine ev_iload od_210_66 rfl ?_
          obtain ⟨bq17, h⟩ := ov_ck_ok h
          refine ev_iald od_210_68 oA_44 (ov_ibk bq17) ?_
          obtain ⟨bq18, h⟩ := ov_ck_ok h
          refine ev_iast od_210_69 oA_56 (ov_ibk bq18) ?_
          refine ev_iconst (v := (1 : Int32)) od_210_70 (by decide) ?_
          cases h
          exact ev_zret od_210_71 rfl (by decide) hP
theorem R210 {L : Nat} {S : ov_S} {G : ov_L2} {x1 : Int32}  {out : Int32 × ov_S} (h : f210 S x1 = some out) : ov_R L 5 210 [.ref 42, .int x1] S G (some (.int out.1)) out.2 G :=
  ov_Rof (t210  h ⟨rfl, rfl, rfl⟩)
-- 32 OE.about
def f32 (S : ov_S) (x1 : Int32) : Option (Int32) :=
  (if x1 = (0 : Int32) then some (S 4 0) else if x1 = (1 : Int32) then some (S 4 1) else if x1 = (2 : Int32) then some (S 4 2) else if x1 = (3 : Int32) then some (S 4 3) else if x1 = (4 : Int32) then (f33 18 S).bind fun y6 => some y6 else if x1 = (5 : Int32) then (f36 18 S).bind fun y8 => some y8 else if x1 = (6 : Int32) then (f41 18 S).bind fun y10 => some y10 else if x1 = (7 : Int32) then (f42 18 S (63 : Int32)).bind fun y12 => some y12 else if x1 = (8 : Int32) then (f53 18 S).bind fun y14 => some y14 else if x1 = (9 : Int32) then (f54 18 S).bind fun y16 => some y16 else if x1 = (10 : Int32) then (f55 S).bind fun y18 => some y18 else if x1 = (11 : Int32) then (f56 S).bind fun y20 => some y20 else if x1 = (12 : Int32) then (f14 S).bind fun y22 => some y22 else some (-2 : Int32))
theorem t32 {L : Nat} {S : ov_S} {G : ov_L2} {x1 : Int32} {P : Option Value → ov_S → ov_L2 → Prop}  {out : Int32} (h : f32 S x1 = some out) (hP : P (some (.int out)) S G) : ov_J L 5 32 0 [some (.ref 1), some (.int x1)] [] S G P := by
  unfold f32 at h
  refine ev_iload_n od_32_0 rfl ?_
  by_cases hc1 : x1 = (0 : Int32)
  · rw [if_pos hc1] at h
    refine ev_tsc (off := 67) (t := 68) hc1 od_32_1 (by decide) (by decide) ?_
    refine ev_aload_n od_32_68 rfl ?_
    refine ev_gf (v := .ref 4) og_32_69 oO_1 rfl ?_
    refine ev_gf (v := .int (S 4 0)) og_32_72 oO_4 rfl ?_
    cases h
    exact ev_iret od_32_75 rfl hP
  rw [if_neg hc1] at h
  by_cases hc2 : x1 = (1 : Int32)
  · rw [if_pos hc2] at h
    refine ev_tsc (off := 75) (t := 76) hc2 od_32_1 (by decide) (by decide) ?_
    refine ev_aload_n od_32_76 rfl ?_
    refine ev_gf (v := .ref 4) og_32_77 oO_1 rfl ?_
    refine ev_gf (v := .int (S 4 1)) og_32_80 oO_4 rfl ?_
    cases h
    exact ev_iret od_32_83 rfl hP
  rw [if_neg hc2] at h
  by_cases hc3 : x1 = (2 : Int32)
  · rw [if_pos hc3] at h
    refine ev_tsc (off := 83) (t := 84) hc3 od_32_1 (by decide) (by decide) ?_
    refine ev_aload_n od_32_84 rfl ?_
    refine ev_gf (v := .ref 4) og_32_85 oO_1 rfl ?_
    refine ev_gf (v := .int (S 4 2)) og_32_88 oO_4 rfl ?_
    cases h
    exact ev_iret od_32_91 rfl hP
  rw [if_neg hc3] at h
  by_cases hc4 : x1 = (3 : Int32)
  · rw [if_pos hc4] at h
    refine ev_tsc (off := 91) (t := 92) hc4 od_32_1 (by decide) (by decide) ?_
    refine ev_aload_n od_32_92 rfl ?_
    refine ev_gf (v := .ref 4) og_32_93 oO_1 rfl ?_
    refine ev_gf (v := .int (S 4 3)) og_32_96 oO_4 rfl ?_
    cases h
    exact ev_iret od_32_99 rfl hP
  rw [if_neg hc4] at h
  by_cases hc5 : x1 = (4 : Int32)
  · rw [if_pos hc5] at h
    refine ev_tsc (off := 99) (t := 100) hc5 od_32_1 (by decide) (by decide) ?_
    refine ev_aload_n od_32_100 rfl ?_
    refine ev_gf (v := .ref 18) og_32_101 oO_1 rfl ?_
    obtain ⟨y6, hy6, h⟩ := ov_bd h
    try dsimp only at h
    refine ev_cvi (y := 33) (n := 0) (a := 18) (c := 3) (as := []) (rest := []) (dc := 4) oc_32_104 rfl rfl rfl oO_18 rfl rfl rfl rfl (by decide) (R33 oS_18 hy6) ?_
    cases h
    exact ev_iret od_32_107 rfl hP
  rw [if_neg hc5] at h
  by_cases hc7 : x1 = (5 : Int32)
  · rw [if_pos hc7] at h
    refine ev_tsc (off := 107) (t := 108) hc7 od_32_1 (by decide) (by decide) ?_
    refine ev_aload_n od_32_108 rfl ?_
    refine ev_gf (v := .ref 18) og_32_109 oO_1 rfl ?_
    obtain ⟨y8, hy8, h⟩ := ov_bd h
    try dsimp only at h
    refine ev_cvi (y := 36) (n := 0) (a := 18) (c := 3) (as := []) (rest := []) (dc := 5) oc_32_112 rfl rfl rfl oO_18 rfl rfl rfl rfl (by decide) (R36 oS_18 hy8) ?_
    cases h
    exact ev_iret od_32_115 rfl hP
  rw [if_neg hc7] at h
  by_cases hc9 : x1 = (6 : Int32)
  · rw [if_pos hc9] at h
    refine ev_tsc (off := 115) (t := 116) hc9 od_32_1 (by decide) (by decide) ?_
    refine ev_aload_n od_32_116 rfl ?_
    refine ev_gf (v := .ref 18) og_32_117 oO_1 rfl ?_
    obtain ⟨y10, hy10, h⟩ := ov_bd h
    try dsimp only at h
    refine ev_cvi (y := 41) (n := 0) (a := 18) (c := 3) (as := []) (rest := []) (dc := 1) oc_32_120 rfl rfl rfl oO_18 rfl rfl rfl rfl (by decide) (R41 oS_18 hy10) ?_
    cases h
    exact ev_iret od_32_123 rfl hP
  rw [if_neg hc9] at h
  by_cases hc11 : x1 = (7 : Int32)
  · rw [if_pos hc11] at h
    refine ev_tsc (off := 123) (t := 124) hc11 od_32_1 (by decide) (by decide) ?_
    refine ev_aload_n od_32_124 rfl ?_
    refine ev_gf (v := .ref 18) og_32_125 oO_1 rfl ?_
    refine ev_bipush (v := (63 : Int32)) od_32_128 (by decide) ?_
    obtain ⟨y12, hy12, h⟩ := ov_bd h
    try dsimp only at h
    refine ev_cvi (y := 42) (n := 1) (a := 18) (c := 3) (as := [.int (63 : Int32)]) (rest := []) (dc := 4) oc_32_130 rfl rfl rfl oO_18 rfl rfl rfl rfl (by decide) (R42 oS_18 hy12) ?_
    cases h
    exact ev_iret od_32_133 rfl hP
  rw [if_neg hc11] at h
  by_cases hc13 : x1 = (8 : Int32)
  · rw [if_pos hc13] at h
    refine ev_tsc (off := 133) (t := 134) hc13 od_32_1 (by decide) (by decide) ?_
    refine ev_aload_n od_32_134 rfl ?_
    refine ev_gf (v := .ref 18) og_32_135 oO_1 rfl ?_
    obtain ⟨y14, hy14, h⟩ := ov_bd h
    try dsimp only at h
    refine ev_cvi (y := 53) (n := 0) (a := 18) (c := 3) (as := []) (rest := []) (dc := 3) oc_32_138 rfl rfl rfl oO_18 rfl rfl rfl rfl (by decide) (R53 oS_18 hy14) ?_
    cases h
    exact ev_iret od_32_141 rfl hP
  rw [if_neg hc13] at h
  by_cases hc15 : x1 = (9 : Int32)
  · rw [if_pos hc15] at h
    refine ev_tsc (off := 141) (t := 142) hc15 od_32_1 (by decide) (by decide) ?_
    refine ev_aload_n od_32_142 rfl ?_
    refine ev_gf (v := .ref 18) og_32_143 oO_1 rfl ?_
    obtain ⟨y16, hy16, h⟩ := ov_bd h
    try dsimp only at h
    refine ev_cvi (y := 54) (n := 0) (a := 18) (c := 3) (as := []) (rest := []) (dc := 1) oc_32_146 rfl rfl rfl oO_18 rfl rfl rfl rfl (by decide) (R54 oS_18 hy16) ?_
    cases h
    exact ev_iret od_32_149 rfl hP
  rw [if_neg hc15] at h
  by_cases hc17 : x1 = (10 : Int32)
  · rw [if_pos hc17] at h
    refine ev_tsc (off := 149) (t := 150) hc17 od_32_1 (by decide) (by decide) ?_
    refine ev_aload_n od_32_150 rfl ?_
    refine ev_gf (v := .ref 24) og_32_151 oO_1 rfl ?_
    obtain ⟨y18, hy18, h⟩ := ov_bd h
    try dsimp only at h
    refine ev_cvi (y := 55) (n := 0) (a := 24) (c := 4) (as := []) (rest := []) (dc := 1) oc_32_154 rfl rfl rfl oO_24 rfl rfl rfl rfl (by decide) (R55  hy18) ?_
    cases h
    exact ev_iret od_32_157 rfl hP
  rw [if_neg hc17] at h
  by_cases hc19 : x1 = (11 : Int32)
  · rw [if_pos hc19] at h
    refine ev_tsc (off := 157) (t := 158) hc19 od_32_1 (by decide) (by decide) ?_
    refine ev_aload_n od_32_158 rfl ?_
    refine ev_gf (v := .ref 28) og_32_159 oO_1 rfl ?_
    obtain ⟨y20, hy20, h⟩ := ov_bd h
    try dsimp only at h
    refine ev_cvi (y := 56) (n := 0) (a := 28) (c := 5) (as := []) (rest := []) (dc := 1) oc_32_162 rfl rfl rfl oO_28 rfl rfl rfl rfl (by decide) (R56  hy20) ?_
    cases h
    exact ev_iret od_32_165 rfl hP
  rw [if_neg hc19] at h
  by_cases hc21 : x1 = (12 : Int32)
  · rw [if_pos hc21] at h
    refine ev_tsc (off := 165) (t := 166) hc21 od_32_1 (by decide) (by decide) ?_
    refine ev_aload_n od_32_166 rfl ?_
    refine ev_gf (v := .ref 2) og_32_167 oO_1 rfl ?_
    obtain ⟨y22, hy22, h⟩ := ov_bd h
    try dsimp only at h
    refine ev_cvi (y := 14) (n := 0) (a := 2) (c := 1) (as := []) (rest := []) (dc := 1) oc_32_170 rfl rfl rfl oO_2 rfl rfl rfl rfl (by decide) (R14  hy22) ?_
    cases h
    exact ev_iret od_32_173 rfl hP
  rw [if_neg hc21] at h
  have ehc1 := ov_ni hc1
  have ehc2 := ov_ni hc2
  have ehc3 := ov_ni hc3
  have ehc4 := ov_ni hc4
  have ehc5 := ov_ni hc5
  have ehc7 := ov_ni hc7
  have ehc9 := ov_ni hc9
  have ehc11 := ov_ni hc11
  have ehc13 := ov_ni hc13
  have ehc15 := ov_ni hc15
  have ehc17 := ov_ni hc17
  have ehc19 := ov_ni hc19
  have ehc21 := ov_ni hc21
  have hout : (x1).toInt < 0 ∨ 12 < (x1).toInt := by
    rw [show ((0 : Int32)).toInt = 0 from by decide] at ehc1
    rw [show ((1 : Int32)).toInt = 1 from by decide] at ehc2
    rw [show ((2 : Int32)).toInt = 2 from by decide] at ehc3
    rw [show ((3 : Int32)).toInt = 3 from by decide] at ehc4
    rw [show ((4 : Int32)).toInt = 4 from by decide] at ehc5
    rw [show ((5 : Int32)).toInt = 5 from by decide] at ehc7
    rw [show ((6 : Int32)).toInt = 6 from by decide] at ehc9
    rw [show ((7 : Int32)).toInt = 7 from by decide] at ehc11
    rw [show ((8 : Int32)).toInt = 8 from by decide] at ehc13
    rw [show ((9 : Int32)).toInt = 9 from by decide] at ehc15
    rw [show ((10 : Int32)).toInt = 10 from by decide] at ehc17
    rw [show ((11 : Int32)).toInt = 11 from by decide] at ehc19
    rw [show ((12 : Int32)).toInt = 12 from by decide] at ehc21
    omega
  refine ev_tsd (t := 174) hout od_32_1 (by decide) ?_
  refine ev_bipush (v := (-2 : Int32)) od_32_174 (by decide) ?_
  cases h
  exact ev_iret od_32_176 rfl hP
theorem R32 {L : Nat} {S : ov_S} {G : ov_L2} {x1 : Int32}  {out : Int32} (h : f32 S x1 = some out) : ov_R L 6 32 [.ref 1, .int x1] S G (some (.int out)) S G :=
  ov_Rof (t32  h ⟨rfl, rfl, rfl⟩)
-- 77 OE.walk
def f77 (S : ov_S) (x1 : Int32) (x2 : Int32) : Option (Int32 × ov_S) :=
  (f29 4 S x1).bind fun y1 => (if y1 = 0 then some ((-1 : Int32), S) else (if x2 < 0 then some ((-2 : Int32), S) else (if x2 ≤ (3 : Int32) then (f35 18 S x1).bind fun y2 => (f78 18 S x1 x2).bind fun y3 => (if y3.1 = 0 then some ((-3 : Int32), y3.2) else (f75 y3.2 (0 : Int32) x1 y2).bind fun y4 => (f35 18 y4 x1).bind fun y5 => some (y5, y4)) else some ((-2 : Int32), S))))
theorem t77 {L : Nat} {S : ov_S} {G : ov_L2} {x1 : Int32} {x2 : Int32} {P : Option Value → ov_S → ov_L2 → Prop}  {out : Int32 × ov_S} (h : f77 S x1 x2 = some out) (hP : P (some (.int out.1)) out.2 G) : ov_J L 5 77 0 [some (.ref 1), some (.int x1), some (.int x2), none] [] S G P := by
  unfold f77 at h
  refine ev_aload_n od_77_0 rfl ?_
  refine ev_gf (v := .ref 4) og_77_1 oO_1 rfl ?_
  refine ev_iload_n od_77_4 rfl ?_
  obtain ⟨y1, hy1, h⟩ := ov_bd h
  try dsimp only at h
  refine ev_cvi (y := 29) (n := 1) (a := 4) (c := 2) (as := [.int x1]) (rest := []) (dc := 1) oc_77_5 rfl rfl rfl oO_4 rfl rfl rfl rfl (by decide) (R29 oP_4 hy1) ?_
  refine ev_if_ne (t := 13) od_77_8 (by decide) (fun hc9 => ?_) (fun hc9 => ?_)
  · rw [if_neg hc9] at h
    refine ev_iload_n od_77_13 rfl ?_
    refine ev_if_lt (t := 22) od_77_14 (by decide) (fun hc8 => ?_) (fun hc8 => ?_)
    · rw [if_pos hc8] at h
      refine ev_bipush (v := (-2 : Int32)) od_77_22 (by decide) ?_
      cases h
      exact ev_iret od_77_24 rfl hP
    · rw [if_neg hc8] at h
      refine ev_iload_n od_77_17 rfl ?_
      refine ev_iconst (v := (3 : Int32)) od_77_18 (by decide) ?_
      refine ev_icmp_le (t := 25) od_77_19 (by decide) (fun hc7 => ?_) (fun hc7 => ?_)
      · rw [if_pos hc7] at h
        refine ev_aload_n od_77_25 rfl ?_
        refine ev_gf (v := .ref 18) og_77_26 oO_1 rfl ?_
        refine ev_iload_n od_77_29 rfl ?_
        obtain ⟨y2, hy2, h⟩ := ov_bd h
        try dsimp only at h
        refine ev_cvi (y := 35) (n := 1) (a := 18) (c := 3) (as := [.int x1]) (rest := []) (dc := 2) oc_77_30 rfl rfl rfl oO_18 rfl rfl rfl rfl (by decide) (R35 oS_18 hy2) ?_
        refine ev_istore_n (lv1 := [some (.ref 1), some (.int x1), some (.int x2), some (.int y2)]) od_77_33 rfl rfl ?_
        refine ev_aload_n od_77_34 rfl ?_
        refine ev_gf (v := .ref 18) og_77_35 oO_1 rfl ?_
        refine ev_iload_n od_77_38 rfl ?_
        refine ev_iload_n od_77_39 rfl ?_
        obtain ⟨y3, hy3, h⟩ := ov_bd h
        try dsimp only at h
        refine ev_cvi (y := 78) (n := 2) (a := 18) (c := 3) (as := [.int x1, .int x2]) (rest := []) (dc := 5) oc_77_40 rfl rfl rfl oO_18 rfl rfl rfl rfl (by decide) (R78 oS_18 hy3) ?_
        refine ev_if_ne (t := 49) od_77_43 (by decide) (fun hc6 => ?_) (fun hc6 => ?_)
        · rw [if_neg hc6] at h
          refine ev_aload_n od_77_49 rfl ?_
          refine ev_gf (v := .ref 24) og_77_50 oO_1 rfl ?_
          refine ev_iconst (v := (0 : Int32)) od_77_53 (by decide) ?_
          refine ev_iload_n od_77_54 rfl ?_
          refine ev_iload_n od_77_55 rfl ?_
          obtain ⟨y4, hy4, h⟩ := ov_bd h
          try dsimp only at h
          refine ev_cvv (y := 75) (n := 3) (a := 24) (c := 4) (as := [.int (0 : Int32), .int x1, .int y2]) (rest := []) (dc := 2) oc_77_56 rfl rfl rfl oO_24 rfl rfl rfl rfl (by decide) (R75  hy4) ?_
          refine ev_aload_n od_77_59 rfl ?_
          refine ev_gf (v := .ref 18) og_77_60 oO_1 rfl ?_
          refine ev_iload_n od_77_63 rfl ?_
          obtain ⟨y5, hy5, h⟩ := ov_bd h
          try dsimp only at h
          refine ev_cvi (y := 35) (n := 1) (a := 18) (c := 3) (as := [.int x1]) (rest := []) (dc := 2) oc_77_64 rfl rfl rfl oO_18 rfl rfl rfl rfl (by decide) (R35 oS_18 hy5) ?_
          cases h
          exact ev_iret od_77_67 rfl hP
        · rw [if_pos hc6] at h
          refine ev_bipush (v := (-3 : Int32)) od_77_46 (by decide) ?_
          cases h
          exact ev_iret od_77_48 rfl hP
      · rw [if_neg hc7] at h
        refine ev_bipush (v := (-2 : Int32)) od_77_22 (by decide) ?_
        cases h
        exact ev_iret od_77_24 rfl hP
  · rw [if_pos hc9] at h
    refine ev_iconst (v := (-1 : Int32)) od_77_11 (by decide) ?_
    cases h
    exact ev_iret od_77_12 rfl hP
theorem R77 {L : Nat} {S : ov_S} {G : ov_L2} {x1 : Int32} {x2 : Int32}  {out : Int32 × ov_S} (h : f77 S x1 x2 = some out) : ov_R L 6 77 [.ref 1, .int x1, .int x2] S G (some (.int out.1)) out.2 G :=
  ov_Rof (t77  h ⟨rfl, rfl, rfl⟩)
-- 80 OE.say
def f80 (S : ov_S) (x1 : Int32) : Option (Int32 × ov_S) :=
  (f45 4 S x1).bind fun y1 => (if y1 = 0 then some ((-1 : Int32), S) else (f81 18 S x1).bind fun y2 => (if y2.1 = 0 then some ((-3 : Int32), y2.2) else (f75 y2.2 (1 : Int32) x1 (-9 : Int32)).bind fun y3 => (f41 18 y3).bind fun y4 => (f69 y4).bind fun y5 => some (y5, y3)))
theorem t80 {L : Nat} {S : ov_S} {G : ov_L2} {x1 : Int32} {P : Option Value → ov_S → ov_L2 → Prop}  {out : Int32 × ov_S} (h : f80 S x1 = some out) (hP : P (some (.int out.1)) out.2 G) : ov_J L 5 80 0 [some (.ref 1), some (.int x1)] [] S G P := by
  unfold f80 at h
  refine ev_aload_n od_80_0 rfl ?_
  refine ev_gf (v := .ref 4) og_80_1 oO_1 rfl ?_
  refine ev_iload_n od_80_4 rfl ?_
  obtain ⟨y1, hy1, h⟩ := ov_bd h
  try dsimp only at h
  refine ev_cvi (y := 45) (n := 1) (a := 4) (c := 2) (as := [.int x1]) (rest := []) (dc := 1) oc_80_5 rfl rfl rfl oO_4 rfl rfl rfl rfl (by decide) (R45 oP_4 hy1) ?_
  refine ev_if_ne (t := 13) od_80_8 (by decide) (fun hc7 => ?_) (fun hc7 => ?_)
  · rw [if_neg hc7] at h
    refine ev_aload_n od_80_13 rfl ?_
    refine ev_gf (v := .ref 18) og_80_14 oO_1 rfl ?_
    refine ev_iload_n od_80_17 rfl ?_
    obtain ⟨y2, hy2, h⟩ := ov_bd h
    try dsimp only at h
    refine ev_cvi (y := 81) (n := 1) (a := 18) (c := 3) (as := [.int x1]) (rest := []) (dc := 5) oc_80_18 rfl rfl rfl oO_18 rfl rfl rfl rfl (by decide) (R81 oS_18 hy2) ?_
    refine ev_if_ne (t := 27) od_80_21 (by decide) (fun hc6 => ?_) (fun hc6 => ?_)
    · rw [if_neg hc6] at h
      refine ev_aload_n od_80_27 rfl ?_
      refine ev_gf (v := .ref 24) og_80_28 oO_1 rfl ?_
      refine ev_iconst (v := (1 : Int32)) od_80_31 (by decide) ?_
      refine ev_iload_n od_80_32 rfl ?_
      refine ev_bipush (v := (-9 : Int32)) od_80_33 (by decide) ?_
      obtain ⟨y3, hy3, h⟩ := ov_bd h
      try dsimp only at h
      refine ev_cvv (y := 75) (n := 3) (a := 24) (c := 4) (as := [.int (1 : Int32), .int x1, .int (-9 : Int32)]) (rest := []) (dc := 2) oc_80_35 rfl rfl rfl oO_24 rfl rfl rfl rfl (by decide) (R75  hy3) ?_
      refine ev_aload_n od_80_38 rfl ?_
      refine ev_gf (v := .ref 18) og_80_39 oO_1 rfl ?_
      obtain ⟨y4, hy4, h⟩ := ov_bd h
      try dsimp only at h
      refine ev_cvi (y := 41) (n := 0) (a := 18) (c := 3) (as := []) (rest := []) (dc := 1) oc_80_42 rfl rfl rfl oO_18 rfl rfl rfl rfl (by decide) (R41 oS_18 hy4) ?_
      obtain ⟨y5, hy5, h⟩ := ov_bd h
      try dsimp only at h
      refine ev_csi (y := 69) (n := 1) (as := [.int y4]) (rest := []) (dc := 1) oc_80_45 rfl rfl rfl rfl rfl (by decide) (R69  hy5) ?_
      cases h
      exact ev_iret od_80_48 rfl hP
    · rw [if_pos hc6] at h
      refine ev_bipush (v := (-3 : Int32)) od_80_24 (by decide) ?_
      cases h
      exact ev_iret od_80_26 rfl hP
  · rw [if_pos hc7] at h
    refine ev_iconst (v := (-1 : Int32)) od_80_11 (by decide) ?_
    cases h
    exact ev_iret od_80_12 rfl hP
theorem R80 {L : Nat} {S : ov_S} {G : ov_L2} {x1 : Int32}  {out : Int32 × ov_S} (h : f80 S x1 = some out) : ov_R L 6 80 [.ref 1, .int x1] S G (some (.int out.1)) out.2 G :=
  ov_Rof (t80  h ⟨rfl, rfl, rfl⟩)
