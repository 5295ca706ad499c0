-- 187 OEModel.note
def b187_51 (x1 : Int32) (S : ov_S) : Option ((Int32 × ov_S) ⊕ (ov_S)) :=
  (if (12 : Int32) ≤ x1 then some (.inr S) else ov_ck (ov_ibb x1 12) (ov_ck (ov_ibb (((12 : Int32) * (S 42 27)) + x1) 168) (some (.inl ((x1 + (1 : Int32)), (ov_up S 58 ((((12 : Int32) * (S 42 27)) + x1)).toNatClampNeg (S 55 (x1).toNatClampNeg)))))))
theorem bt187_51 {L : Nat} {S : ov_S} {G : ov_L2} {x1 : Int32} {P : Option Value → ov_S → ov_L2 → Prop}  {out : (Int32 × ov_S) ⊕ (ov_S)} (h : b187_51 x1 S = some out) (hk : ov_sm (σ := Int32 × ov_S) (ε := (ov_S)) (fun s => ov_J L 0 187 51 [some (.ref 42), some (.int s.1)] [] s.2 G P) (fun e => ov_J L 0 187 83 [some (.ref 42), none] [] e G P) out) : ov_J L 0 187 51 [some (.ref 42), some (.int x1)] [] S G P := by
  unfold b187_51 at h
  refine ev_iload_n od_187_51 rfl ?_
  refine ev_bipush (v := (12 : Int32)) od_187_52 (by decide) ?_
  refine ev_icmp_ge (t := 83) od_187_54 (by decide) (fun hc3 => ?_) (fun hc3 => ?_)
  · rw [if_pos hc3] at h
    cases h
    refine ev_fg (lv0 := [some (.ref 42), none]) (ov_le_s (ov_le_n (ov_le_e))) ?_
    exact hk
  · rw [if_neg hc3] at h
    refine ev_aload_n od_187_57 rfl ?_
    refine ev_gf (v := .ref 58) og_187_58 oO_42 rfl ?_
    refine ev_bipush (v := (12 : Int32)) od_187_61 (by decide) ?_
    refine ev_aload_n od_187_63 rfl ?_
    refine ev_gf (v := .int (S 42 27)) og_187_64 oO_42 rfl ?_
    refine ev_imul od_187_67 ?_
    refine ev_iload_n od_187_68 rfl ?_
    refine ev_iadd od_187_69 ?_
    refine ev_aload_n od_187_70 rfl ?_
    refine ev_gf (v := .ref 55) og_187_71 oO_42 rfl ?_
    refine ev_iload_n od_187_74 rfl ?_
    obtain ⟨bq1, h⟩ := ov_ck_ok h
    refine ev_iald od_187_75 oA_55 (ov_ibk bq1) ?_
    obtain ⟨bq2, h⟩ := ov_ck_ok h
    refine ev_iast od_187_76 oA_58 (ov_ibk bq2) ?_
    refine ev_iinc (v := (x1 + (1 : Int32))) (lv1 := [some (.ref 42), some (.int (x1 + (1 : Int32)))]) od_187_77 rfl rfl rfl ?_
    refine ev_goto (t := 51) od_187_80 (by decide) ?_
    cases h
    exact hk
def f187_49 (S : ov_S) : Option (ov_S) :=
  ((ov_lp (fun s => b187_51  s.1 s.2) 2000 ((0 : Int32), S)).bind fun e4 => some (ov_up (ov_up e4 42 27 ((e4 42 27) + (1 : Int32))) 55 ((11 : Int32)).toNatClampNeg (((ov_up e4 42 27 ((e4 42 27) + (1 : Int32))) 55 ((11 : Int32)).toNatClampNeg) + (1 : Int32))))
theorem t187_49 {L : Nat} {S : ov_S} {G : ov_L2}  {P : Option Value → ov_S → ov_L2 → Prop}  {out : ov_S} (h : f187_49 S = some out) (hP : P none out G) : ov_J L 0 187 49 [some (.ref 42), none] [] S G P := by
  unfold f187_49 at h
  refine ev_iconst (v := (0 : Int32)) od_187_49 (by decide) ?_
  refine ev_istore_n (lv1 := [some (.ref 42), some (.int (0 : Int32))]) od_187_50 rfl rfl ?_
  obtain ⟨e4, he4, h⟩ := ov_bd h
  try dsimp only at h
  refine ov_lp_S (body := (fun s => b187_51  s.1 s.2)) (head := (fun s => ov_J L 0 187 51 [some (.ref 42), some (.int s.1)] [] s.2 G P)) (exit := (fun e => ov_J L 0 187 83 [some (.ref 42), none] [] e G P)) (fun s r hb hk => bt187_51  hb hk) 2000 ((0 : Int32), S) e4 he4 ?_
  show ov_J L 0 187 83 [some (.ref 42), none] [] e4 G P
  refine ev_aload_n od_187_83 rfl ?_
  refine ev_dup od_187_84 rfl ?_
  refine ev_gf (v := .int (e4 42 27)) og_187_85 oO_42 rfl ?_
  refine ev_iconst (v := (1 : Int32)) od_187_88 (by decide) ?_
  refine ev_iadd od_187_89 ?_
  refine ev_pf op_187_90 oO_42 rfl rfl ?_
  refine ev_aload_n od_187_93 rfl ?_
  refine ev_gf (v := .ref 55) og_187_94 oO_42 rfl ?_
  refine ev_bipush (v := (11 : Int32)) od_187_97 (by decide) ?_
  refine ev_dup2 od_187_99 rfl rfl ?_
  refine ev_iald od_187_100 oA_55 (ov_ibk (by decide)) ?_
  refine ev_iconst (v := (1 : Int32)) od_187_101 (by decide) ?_
  refine ev_iadd od_187_102 ?_
  refine ev_iast od_187_103 oA_55 (ov_ibk (by decide)) ?_
  cases h
  exact ev_vret od_187_104 rfl hP
def b187_11 (x1 : Int32) (S : ov_S) : Option ((Int32 × ov_S) ⊕ (ov_S)) :=
  (if (156 : Int32) ≤ x1 then some (.inr S) else ov_ck (ov_ibb (x1 + (12 : Int32)) 168) (ov_ck (ov_ibb x1 168) (some (.inl ((x1 + (1 : Int32)), (ov_up S 58 (x1).toNatClampNeg (S 58 ((x1 + (12 : Int32))).toNatClampNeg)))))))
theorem bt187_11 {L : Nat} {S : ov_S} {G : ov_L2} {x1 : Int32} {P : Option Value → ov_S → ov_L2 → Prop}  {out : (Int32 × ov_S) ⊕ (ov_S)} (h : b187_11 x1 S = some out) (hk : ov_sm (σ := Int32 × ov_S) (ε := (ov_S)) (fun s => ov_J L 0 187 11 [some (.ref 42), some (.int s.1)] [] s.2 G P) (fun e => ov_J L 0 187 39 [some (.ref 42), none] [] e G P) out) : ov_J L 0 187 11 [some (.ref 42), some (.int x1)] [] S G P := by
  unfold b187_11 at h
  refine ev_iload_n od_187_11 rfl ?_
  refine ev_sipush (v := (156 : Int32)) od_187_12 (by decide) ?_
  refine ev_icmp_ge (t := 39) od_187_15 (by decide) (fun hc7 => ?_) (fun hc7 => ?_)
  · rw [if_pos hc7] at h
    cases h
    refine ev_fg (lv0 := [some (.ref 42), none]) (ov_le_s (ov_le_n (ov_le_e))) ?_
    exact hk
  · rw [if_neg hc7] at h
    refine ev_aload_n od_187_18 rfl ?_
    refine ev_gf (v := .ref 58) og_187_19 oO_42 rfl ?_
    refine ev_iload_n od_187_22 rfl ?_
    refine ev_aload_n od_187_23 rfl ?_
    refine ev_gf (v := .ref 58) og_187_24 oO_42 rfl ?_
    refine ev_iload_n od_187_27 rfl ?_
    refine ev_bipush (v := (12 : Int32)) od_187_28 (by decide) ?_
    refine ev_iadd od_187_30 ?_
    obtain ⟨bq5, h⟩ := ov_ck_ok h
    refine ev_iald od_187_31 oA_58 (ov_ibk bq5) ?_
    obtain ⟨bq6, h⟩ := ov_ck_ok h
    refine ev_iast od_187_32 oA_58 (ov_ibk bq6) ?_
    refine ev_iinc (v := (x1 + (1 : Int32))) (lv1 := [some (.ref 42), some (.int (x1 + (1 : Int32)))]) od_187_33 rfl rfl rfl ?_
    refine ev_goto (t := 11) od_187_36 (by decide) ?_
    cases h
    exact hk
def f187 (S : ov_S) : Option (ov_S) :=
  (if (S 42 27) = (14 : Int32) then ((ov_lp (fun s => b187_11  s.1 s.2) 2000 ((0 : Int32), S)).bind fun e8 => f187_49 (ov_up e8 42 27 ((e8 42 27) - (1 : Int32)))) else f187_49 S)
theorem t187 {L : Nat} {S : ov_S} {G : ov_L2}  {P : Option Value → ov_S → ov_L2 → Prop}  {out : ov_S} (h : f187 S = some out) (hP : P none out G) : ov_J L 0 187 0 [some (.ref 42), none] [] S G P := by
  unfold f187 at h
  refine ev_aload_n od_187_0 rfl ?_
  refine ev_gf (v := .int (S 42 27)) og_187_1 oO_42 rfl ?_
  refine ev_bipush (v := (14 : Int32)) od_187_4 (by decide) ?_
  refine ev_icmp_ne (t := 49) od_187_6 (by decide) (fun hc9 => ?_) (fun hc9 => ?_)
  · rw [if_neg hc9] at h
    exact t187_49  h hP
  · rw [if_pos hc9] at h
    refine ev_iconst (v := (0 : Int32)) od_187_9 (by decide) ?_
    refine ev_istore_n (lv1 := [some (.ref 42), some (.int (0 : Int32))]) od_187_10 rfl rfl ?_
    obtain ⟨e8, he8, h⟩ := ov_bd h
    try dsimp only at h
    refine ov_lp_S (body := (fun s => b187_11  s.1 s.2)) (head := (fun s => ov_J L 0 187 11 [some (.ref 42), some (.int s.1)] [] s.2 G P)) (exit := (fun e => ov_J L 0 187 39 [some (.ref 42), none] [] e G P)) (fun s r hb hk => bt187_11  hb hk) 2000 ((0 : Int32), S) e8 he8 ?_
    show ov_J L 0 187 39 [some (.ref 42), none] [] e8 G P
    refine ev_aload_n od_187_39 rfl ?_
    refine ev_dup od_187_40 rfl ?_
    refine ev_gf (v := .int (e8 42 27)) og_187_41 oO_42 rfl ?_
    refine ev_iconst (v := (1 : Int32)) od_187_44 (by decide) ?_
    refine ev_isub od_187_45 ?_
    refine ev_pf op_187_46 oO_42 rfl rfl ?_
    exact t187_49  h hP
theorem R187 {L : Nat} {S : ov_S} {G : ov_L2}   {out : ov_S} (h : f187 S = some out) : ov_R L 1 187 [.ref 42] S G none out G :=
  ov_Rof (t187  h ⟨rfl, rfl, rfl⟩)
-- 191 OEModel.many
def b191_4 (x0 : Int32) (x1 : Int32) (x2 : Int32) : Option ((Int32 × Int32) ⊕ (Int32)) :=
  (if (18 : Int32) ≤ x2 then some (.inr x1) else some (.inl ((x1 + ((x0 >>> (x2 &&& 31)) &&& (1 : Int32))), (x2 + (1 : Int32)))))
theorem bt191_4 {L : Nat} {S : ov_S} {G : ov_L2} {x0 : Int32} {x1 : Int32} {x2 : Int32} {P : Option Value → ov_S → ov_L2 → Prop}  {out : (Int32 × Int32) ⊕ (Int32)} (h : b191_4 x0 x1 x2 = some out) (hk : ov_sm (σ := Int32 × Int32) (ε := (Int32)) (fun s => ov_J L 0 191 4 [some (.int x0), some (.int s.1), some (.int s.2)] [] S G P) (fun e => ov_J L 0 191 24 [none, some (.int e), none] [] S G P) out) : ov_J L 0 191 4 [some (.int x0), some (.int x1), some (.int x2)] [] S G P := by
  unfold b191_4 at h
  refine ev_iload_n od_191_4 rfl ?_
  refine ev_bipush (v := (18 : Int32)) od_191_5 (by decide) ?_
  refine ev_icmp_ge (t := 24) od_191_7 (by decide) (fun hc1 => ?_) (fun hc1 => ?_)
  · rw [if_pos hc1] at h
    cases h
    refine ev_fg (lv0 := [none, some (.int x1), none]) (ov_le_n (ov_le_s (ov_le_n (ov_le_e)))) ?_
    exact hk
  · rw [if_neg hc1] at h
    refine ev_iload_n od_191_10 rfl ?_
    refine ev_iload_n od_191_11 rfl ?_
    refine ev_iload_n od_191_12 rfl ?_
    refine ev_ishr od_191_13 ?_
    refine ev_iconst (v := (1 : Int32)) od_191_14 (by decide) ?_
    refine ev_iand od_191_15 ?_
    refine ev_iadd od_191_16 ?_
    refine ev_istore_n (lv1 := [some (.int x0), some (.int (x1 + ((x0 >>> (x2 &&& 31)) &&& (1 : Int32)))), some (.int x2)]) od_191_17 rfl rfl ?_
    refine ev_iinc (v := (x2 + (1 : Int32))) (lv1 := [some (.int x0), some (.int (x1 + ((x0 >>> (x2 &&& 31)) &&& (1 : Int32)))), some (.int (x2 + (1 : Int32)))]) od_191_18 rfl rfl rfl ?_
    refine ev_goto (t := 4) od_191_21 (by decide) ?_
    cases h
    exact hk
def f191 (x0 : Int32) : Option (Int32) :=
  ((ov_lp (fun s => b191_4 x0 s.1 s.2) 2000 ((0 : Int32), (0 : Int32))).bind fun e2 => some e2)
theorem t191 {L : Nat} {S : ov_S} {G : ov_L2} {x0 : Int32} {P : Option Value → ov_S → ov_L2 → Prop}  {out : Int32} (h : f191 x0 = some out) (hP : P (some (.int out)) S G) : ov_J L 0 191 0 [some (.int x0), none, none] [] S G P := by
  unfold f191 at h
  refine ev_iconst (v := (0 : Int32)) od_191_0 (by decide) ?_
  refine ev_istore_n (lv1 := [some (.int x0), some (.int (0 : Int32)), none]) od_191_1 rfl rfl ?_
  refine ev_iconst (v := (0 : Int32)) od_191_2 (by decide) ?_
  refine ev_istore_n (lv1 := [some (.int x0), some (.int (0 : Int32)), some (.int (0 : Int32))]) od_191_3 rfl rfl ?_
  obtain ⟨e2, he2, h⟩ := ov_bd h
  try dsimp only at h
  refine ov_lp_S (body := (fun s => b191_4 x0 s.1 s.2)) (head := (fun s => ov_J L 0 191 4 [some (.int x0), some (.int s.1), some (.int s.2)] [] S G P)) (exit := (fun e => ov_J L 0 191 24 [none, some (.int e), none] [] S G P)) (fun s r hb hk => bt191_4  hb hk) 2000 ((0 : Int32), (0 : Int32)) e2 he2 ?_
  show ov_J L 0 191 24 [none, some (.int e2), none] [] S G P
  refine ev_iload_n od_191_24 rfl ?_
  cases h
  exact ev_iret od_191_25 rfl hP
theorem R191 {L : Nat} {S : ov_S} {G : ov_L2} {x0 : Int32}  {out : Int32} (h : f191 x0 = some out) : ov_R L 1 191 [.int x0] S G (some (.int out)) S G :=
  ov_Rof (t191  h ⟨rfl, rfl, rfl⟩)
-- 194 OEModel.isDoor
def f194_31_4 (S : ov_S) (x1 : Int32) (x3 : Int32) (s0 : Int32) : Option ((Int32 × Int32) ⊕ (Int32)) :=
  some (.inl (s0, (x3 + (1 : Int32))))
theorem t194_31_4 {L : Nat} {S : ov_S} {G : ov_L2} {x1 : Int32} {x3 : Int32} {s0 : Int32} {P : Option Value → ov_S → ov_L2 → Prop}  {out : (Int32 × Int32) ⊕ (Int32)} (h : f194_31_4 S x1 x3 s0 = some out) (hk : ov_sm (σ := Int32 × Int32) (ε := (Int32)) (fun s => ov_J L 0 194 4 [some (.ref 42), some (.int x1), some (.int s.1), some (.int s.2)] [] S G P) (fun e => ov_J L 0 194 38 [none, none, some (.int e), none] [] S G P) out) : ov_J L 0 194 31 [some (.ref 42), some (.int x1), none, some (.int x3)] [.int s0] S G P := by
  unfold f194_31_4 at h
  refine ev_istore_n (lv1 := [some (.ref 42), some (.int x1), some (.int s0), some (.int x3)]) od_194_31 rfl rfl ?_
  refine ev_iinc (v := (x3 + (1 : Int32))) (lv1 := [some (.ref 42), some (.int x1), some (.int s0), some (.int (x3 + (1 : Int32)))]) od_194_32 rfl rfl rfl ?_
  refine ev_goto (t := 4) od_194_35 (by decide) ?_
  cases h
  exact hk
def f194_26_4 (S : ov_S) (x1 : Int32) (x3 : Int32) : Option ((Int32 × Int32) ⊕ (Int32)) :=
  f194_31_4 S x1 x3 (1 : Int32)
theorem t194_26_4 {L : Nat} {S : ov_S} {G : ov_L2} {x1 : Int32} {x3 : Int32} {P : Option Value → ov_S → ov_L2 → Prop}  {out : (Int32 × Int32) ⊕ (Int32)} (h : f194_26_4 S x1 x3 = some out) (hk : ov_sm (σ := Int32 × Int32) (ε := (Int32)) (fun s => ov_J L 0 194 4 [some (.ref 42), some (.int x1), some (.int s.1), some (.int s.2)] [] S G P) (fun e => ov_J L 0 194 38 [none, none, some (.int e), none] [] S G P) out) : ov_J L 0 194 26 [some (.ref 42), some (.int x1), none, some (.int x3)] [] S G P := by
  unfold f194_26_4 at h
  refine ev_iconst (v := (1 : Int32)) od_194_26 (by decide) ?_
  refine ev_goto (t := 31) od_194_27 (by decide) ?_
  exact t194_31_4  h hk
def b194_4 (S : ov_S) (x1 : Int32) (x2 : Int32) (x3 : Int32) : Option ((Int32 × Int32) ⊕ (Int32)) :=
  (if (S 42 4) ≤ x3 then some (.inr x2) else (if x2 = 0 then ov_ck (ov_ibb x3 3) ((if (S 44 (x3).toNatClampNeg) = x1 then f194_26_4 S x1 x3 else f194_31_4 S x1 x3 (0 : Int32))) else f194_26_4 S x1 x3))
theorem bt194_4 {L : Nat} {S : ov_S} {G : ov_L2} {x1 : Int32} {x2 : Int32} {x3 : Int32} {P : Option Value → ov_S → ov_L2 → Prop}  {out : (Int32 × Int32) ⊕ (Int32)} (h : b194_4 S x1 x2 x3 = some out) (hk : ov_sm (σ := Int32 × Int32) (ε := (Int32)) (fun s => ov_J L 0 194 4 [some (.ref 42), some (.int x1), some (.int s.1), some (.int s.2)] [] S G P) (fun e => ov_J L 0 194 38 [none, none, some (.int e), none] [] S G P) out) : ov_J L 0 194 4 [some (.ref 42), some (.int x1), some (.int x2), some (.int x3)] [] S G P := by
  unfold b194_4 at h
  refine ev_iload_n od_194_4 rfl ?_
  refine ev_aload_n od_194_5 rfl ?_
  refine ev_gf (v := .int (S 42 4)) og_194_6 oO_42 rfl ?_
  refine ev_icmp_ge (t := 38) od_194_9 (by decide) (fun hc4 => ?_) (fun hc4 => ?_)
  · rw [if_pos hc4] at h
    cases h
    refine ev_fg (lv0 := [none, none, some (.int x2), none]) (ov_le_n (ov_le_n (ov_le_s (ov_le_n (ov_le_e))))) ?_
    exact hk
  · rw [if_neg hc4] at h
    refine ev_iload_n od_194_12 rfl ?_
    refine ev_if_ne (t := 26) od_194_13 (by decide) (fun hc3 => ?_) (fun hc3 => ?_)
    · rw [if_neg hc3] at h
      refine ev_fg (lv0 := [some (.ref 42), some (.int x1), none, some (.int x3)]) (ov_le_s (ov_le_s (ov_le_n (ov_le_s (ov_le_e))))) ?_
      exact t194_26_4  h hk
    · rw [if_pos hc3] at h
      refine ev_aload_n od_194_16 rfl ?_
      refine ev_gf (v := .ref 44) og_194_17 oO_42 rfl ?_
      refine ev_iload_n od_194_20 rfl ?_
      obtain ⟨bq1, h⟩ := ov_ck_ok h
      refine ev_iald od_194_21 oA_44 (ov_ibk bq1) ?_
      refine ev_iload_n od_194_22 rfl ?_
      refine ev_icmp_ne (t := 30) od_194_23 (by decide) (fun hc2 => ?_) (fun hc2 => ?_)
      · rw [if_neg hc2] at h
        refine ev_iconst (v := (0 : Int32)) od_194_30 (by decide) ?_
        refine ev_fg (lv0 := [some (.ref 42), some (.int x1), none, some (.int x3)]) (ov_le_s (ov_le_s (ov_le_n (ov_le_s (ov_le_e))))) ?_
        exact t194_31_4  h hk
      · rw [if_pos hc2] at h
        refine ev_fg (lv0 := [some (.ref 42), some (.int x1), none, some (.int x3)]) (ov_le_s (ov_le_s (ov_le_n (ov_le_s (ov_le_e))))) ?_
        exact t194_26_4  h hk
def f194 (S : ov_S) (x1 : Int32) : Option (Int32) :=
  ((ov_lp (fun s => b194_4 S x1 s.1 s.2) 2000 ((0 : Int32), (0 : Int32))).bind fun e5 => ov_ck (ov_b01 e5) (some e5))
theorem t194 {L : Nat} {S : ov_S} {G : ov_L2} {x1 : Int32} {P : Option Value → ov_S → ov_L2 → Prop}  {out : Int32} (h : f194 S x1 = some out) (hP : P (some (.int out)) S G) : ov_J L 0 194 0 [some (.ref 42), some (.int x1), none, none] [] S G P := by
  unfold f194 at h
  refine ev_iconst (v := (0 : Int32)) od_194_0 (by decide) ?_
  refine ev_istore_n (lv1 := [some (.ref 42), some (.int x1), some (.int (0 : Int32)), none]) od_194_1 rfl rfl ?_
  refine ev_iconst (v := (0 : Int32)) od_194_2 (by decide) ?_
  refine ev_istore_n (lv1 := [some (.ref 42), some (.int x1), some (.int (0 : Int32)), some (.int (0 : Int32))]) od_194_3 rfl rfl ?_
  obtain ⟨e5, he5, h⟩ := ov_bd h
  try dsimp only at h
  refine ov_lp_S (body := (fun s => b194_4 S x1 s.1 s.2)) (head := (fun s => ov_J L 0 194 4 [some (.ref 42), some (.int x1), some (.int s.1), some (.int s.2)] [] S G P)) (exit := (fun e => ov_J L 0 194 38 [none, none, some (.int e), none] [] S G P)) (fun s r hb hk => bt194_4  hb hk) 2000 ((0 : Int32), (0 : Int32)) e5 he5 ?_
  show ov_J L 0 194 38 [none, none, some (.int e5), none] [] S G P
  refine ev_iload_n od_194_38 rfl ?_
  obtain ⟨bq6, h⟩ := ov_ck_ok h
  cases h
  exact ev_zret od_194_39 rfl (ov_b01k bq6) hP
theorem R194 {L : Nat} {S : ov_S} {G : ov_L2} {x1 : Int32}  {out : Int32} (h : f194 S x1 = some out) : ov_R L 1 194 [.ref 42, .int x1] S G (some (.int out)) S G :=
  ov_Rof (t194  h ⟨rfl, rfl, rfl⟩)
-- 195 OEModel.undo
def b195_27 (x1 : Int32) (S : ov_S) : Option ((Int32 × ov_S) ⊕ (ov_S)) :=
  (if (12 : Int32) ≤ x1 then some (.inr S) else ov_ck (ov_ibb (((12 : Int32) * (S 42 27)) + x1) 168) (ov_ck (ov_ibb x1 12) (some (.inl ((x1 + (1 : Int32)), (ov_up S 55 (x1).toNatClampNeg (S 58 ((((12 : Int32) * (S 42 27)) + x1)).toNatClampNeg)))))))
theorem bt195_27 {L : Nat} {S : ov_S} {G : ov_L2} {x1 : Int32} {P : Option Value → ov_S → ov_L2 → Prop}  {out : (Int32 × ov_S) ⊕ (ov_S)} (h : b195_27 x1 S = some out) (hk : ov_sm (σ := Int32 × ov_S) (ε := (ov_S)) (fun s => ov_J L 0 195 27 [some (.ref 42), some (.int s.1)] [] s.2 G P) (fun e => ov_J L 0 195 59 [some (.ref 42), none] [] e G P) out) : ov_J L 0 195 27 [some (.ref 42), some (.int x1)] [] S G P := by
  unfold b195_27 at h
  refine ev_iload_n od_195_27 rfl ?_
  refine ev_bipush (v := (12 : Int32)) od_195_28 (by decide) ?_
  refine ev_icmp_ge (t := 59) od_195_30 (by decide) (fun hc3 => ?_) (fun hc3 => ?_)
  · rw [if_pos hc3] at h
    cases h
    refine ev_fg (lv0 := [some (.ref 42), none]) (ov_le_s (ov_le_n (ov_le_e))) ?_
    exact hk
  · rw [if_neg hc3] at h
    refine ev_aload_n od_195_33 rfl ?_
    refine ev_gf (v := .ref 55) og_195_34 oO_42 rfl ?_
    refine ev_iload_n od_195_37 rfl ?_
    refine ev_aload_n od_195_38 rfl ?_
    refine ev_gf (v := .ref 58) og_195_39 oO_42 rfl ?_
    refine ev_bipush (v := (12 : Int32)) od_195_42 (by decide) ?_
    refine ev_aload_n od_195_44 rfl ?_
    refine ev_gf (v := .int (S 42 27)) og_195_45 oO_42 rfl ?_
    refine ev_imul od_195_48 ?_
    refine ev_iload_n od_195_49 rfl ?_
    refine ev_iadd od_195_50 ?_
    obtain ⟨bq1, h⟩ := ov_ck_ok h
    refine ev_iald od_195_51 oA_58 (ov_ibk bq1) ?_
    obtain ⟨bq2, h⟩ := ov_ck_ok h
    refine ev_iast od_195_52 oA_55 (ov_ibk bq2) ?_
    refine ev_iinc (v := (x1 + (1 : Int32))) (lv1 := [some (.ref 42), some (.int (x1 + (1 : Int32)))]) od_195_53 rfl rfl rfl ?_
    refine ev_goto (t := 27) od_195_56 (by decide) ?_
    cases h
    exact hk
def f195 (S : ov_S) : Option (Int32 × ov_S) :=
  (if ((ov_up S 42 0 (0 : Int32)) 42 27) = 0 then some ((-3 : Int32), (ov_up S 42 0 (0 : Int32))) else ((ov_lp (fun s => b195_27  s.1 s.2) 2000 ((0 : Int32), (ov_up (ov_up S 42 0 (0 : Int32)) 42 27 (((ov_up S 42 0 (0 : Int32)) 42 27) - (1 : Int32))))).bind fun e4 => some ((e4 42 27), e4)))
theorem t195 {L : Nat} {S : ov_S} {G : ov_L2}  {P : Option Value → ov_S → ov_L2 → Prop}  {out : Int32 × ov_S} (h : f195 S = some out) (hP : P (some (.int out.1)) out.2 G) : ov_J L 0 195 0 [some (.ref 42), none] [] S G P := by
  unfold f195 at h
  refine ev_aload_n od_195_0 rfl ?_
  refine ev_iconst (v := (0 : Int32)) od_195_1 (by decide) ?_
  refine ev_pf op_195_2 oO_42 rfl rfl ?_
  refine ev_aload_n od_195_5 rfl ?_
  refine ev_gf (v := .int ((ov_up S 42 0 (0 : Int32)) 42 27)) og_195_6 oO_42 rfl ?_
  refine ev_if_ne (t := 15) od_195_9 (by decide) (fun hc5 => ?_) (fun hc5 => ?_)
  · rw [if_neg hc5] at h
    refine ev_aload_n od_195_15 rfl ?_
    refine ev_dup od_195_16 rfl ?_
    refine ev_gf (v := .int ((ov_up S 42 0 (0 : Int32)) 42 27)) og_195_17 oO_42 rfl ?_
    refine ev_iconst (v := (1 : Int32)) od_195_20 (by decide) ?_
    refine ev_isub od_195_21 ?_
    refine ev_pf op_195_22 oO_42 rfl rfl ?_
    refine ev_iconst (v := (0 : Int32)) od_195_25 (by decide) ?_
    refine ev_istore_n (lv1 := [some (.ref 42), some (.int (0 : Int32))]) od_195_26 rfl rfl ?_
    obtain ⟨e4, he4, h⟩ := ov_bd h
    try dsimp only at h
    refine ov_lp_S (body := (fun s => b195_27  s.1 s.2)) (head := (fun s => ov_J L 0 195 27 [some (.ref 42), some (.int s.1)] [] s.2 G P)) (exit := (fun e => ov_J L 0 195 59 [some (.ref 42), none] [] e G P)) (fun s r hb hk => bt195_27  hb hk) 2000 ((0 : Int32), (ov_up (ov_up S 42 0 (0 : Int32)) 42 27 (((ov_up S 42 0 (0 : Int32)) 42 27) - (1 : Int32)))) e4 he4 ?_
    show ov_J L 0 195 59 [some (.ref 42), none] [] e4 G P
    refine ev_aload_n od_195_59 rfl ?_
    refine ev_gf (v := .int (e4 42 27)) og_195_60 oO_42 rfl ?_
    cases h
    exact ev_iret od_195_63 rfl hP
  · rw [if_pos hc5] at h
    refine ev_bipush (v := (-3 : Int32)) od_195_12 (by decide) ?_
    cases h
    exact ev_iret od_195_14 rfl hP
theorem R195 {L : Nat} {S : ov_S} {G : ov_L2}   {out : Int32 × ov_S} (h : f195 S = some out) : ov_R L 1 195 [.ref 42] S G (some (.int out.1)) out.2 G :=
  ov_Rof (t195  h ⟨rfl, rfl, rfl⟩)
-- 205 OEModel.nextOrder
def b205_4 (S : ov_S) (x1 : Int32) (x2 : Int32) : Option ((Int32) ⊕ (Int32)) :=
  (if x2 < 0 then some (.inr x2) else ov_ck (ov_ibb x2 6) (ov_ck (ov_ibb (x2 + (1 : Int32)) 6) ((if (S 64 (x2).toNatClampNeg) ≤ (S 64 ((x2 + (1 : Int32))).toNatClampNeg) then some (.inr x2) else some (.inl (x2 + (-1 : Int32)))))))
theorem bt205_4 {L : Nat} {S : ov_S} {G : ov_L2} {x1 : Int32} {x2 : Int32} {P : Option Value → ov_S → ov_L2 → Prop}  {out : (Int32) ⊕ (Int32)} (h : b205_4 S x1 x2 = some out) (hk : ov_sm (σ := Int32) (ε := (Int32)) (fun s => ov_J L 0 205 4 [some (.ref 42), some (.int x1), some (.int s), none, none, none, none] [] S G P) (fun e => ov_J L 0 205 31 [some (.ref 42), some (.int x1), some (.int e), none, none, none, none] [] S G P) out) : ov_J L 0 205 4 [some (.ref 42), some (.int x1), some (.int x2), none, none, none, none] [] S G P := by
  unfold b205_4 at h
  refine ev_iload_n od_205_4 rfl ?_
  refine ev_if_lt (t := 31) od_205_5 (by decide) (fun hc4 => ?_) (fun hc4 => ?_)
  · rw [if_pos hc4] at h
    cases h
    exact hk
  · rw [if_neg hc4] at h
    refine ev_aload_n od_205_8 rfl ?_
    refine ev_gf (v := .ref 64) og_205_9 oO_42 rfl ?_
    refine ev_iload_n od_205_12 rfl ?_
    obtain ⟨bq1, h⟩ := ov_ck_ok h
    refine ev_iald od_205_13 oA_64 (ov_ibk bq1) ?_
    refine ev_aload_n od_205_14 rfl ?_
    refine ev_gf (v := .ref 64) og_205_15 oO_42 rfl ?_
    refine ev_iload_n od_205_18 rfl ?_
    refine ev_iconst (v := (1 : Int32)) od_205_19 (by decide) ?_
    refine ev_iadd od_205_20 ?_
    obtain ⟨bq2, h⟩ := ov_ck_ok h
    refine ev_iald od_205_21 oA_64 (ov_ibk bq2) ?_
    refine ev_icmp_le (t := 31) od_205_22 (by decide) (fun hc3 => ?_) (fun hc3 => ?_)
    · rw [if_pos hc3] at h
      cases h
      exact hk
    · rw [if_neg hc3] at h
      refine ev_iinc (v := (x2 + (-1 : Int32))) (lv1 := [some (.ref 42), some (.int x1), some (.int (x2 + (-1 : Int32))), none, none, none, none]) od_205_25 rfl rfl rfl ?_
      refine ev_goto (t := 4) od_205_28 (by decide) ?_
      cases h
      exact hk
def b205_41 (S : ov_S) (x1 : Int32) (x2 : Int32) (x3 : Int32) : Option ((Int32) ⊕ (Int32)) :=
  ov_ck (ov_ibb x3 6) (ov_ck (ov_ibb x2 6) ((if (S 64 (x2).toNatClampNeg) ≤ (S 64 (x3).toNatClampNeg) then some (.inr x3) else some (.inl (x3 + (-1 : Int32))))))
theorem bt205_41 {L : Nat} {S : ov_S} {G : ov_L2} {x1 : Int32} {x2 : Int32} {x3 : Int32} {P : Option Value → ov_S → ov_L2 → Prop}  {out : (Int32) ⊕ (Int32)} (h : b205_41 S x1 x2 x3 = some out) (hk : ov_sm (σ := Int32) (ε := (Int32)) (fun s => ov_J L 0 205 41 [some (.ref 42), some (.int x1), some (.int x2), some (.int s), none, none, none] [] S G P) (fun e => ov_J L 0 205 62 [some (.ref 42), some (.int x1), some (.int x2), some (.int e), none, none, none] [] S G P) out) : ov_J L 0 205 41 [some (.ref 42), some (.int x1), some (.int x2), some (.int x3), none, none, none] [] S G P := by
  unfold b205_41 at h
  refine ev_aload_n od_205_41 rfl ?_
  refine ev_gf (v := .ref 64) og_205_42 oO_42 rfl ?_
  refine ev_iload_n od_205_45 rfl ?_
  obtain ⟨bq6, h⟩ := ov_ck_ok h
  refine ev_iald od_205_46 oA_64 (ov_ibk bq6) ?_
  refine ev_aload_n od_205_47 rfl ?_
  refine ev_gf (v := .ref 64) og_205_48 oO_42 rfl ?_
  refine ev_iload_n od_205_51 rfl ?_
  obtain ⟨bq7, h⟩ := ov_ck_ok h
  refine ev_iald od_205_52 oA_64 (ov_ibk bq7) ?_
  refine ev_icmp_ge (t := 62) od_205_53 (by decide) (fun hc8 => ?_) (fun hc8 => ?_)
  · rw [if_pos hc8] at h
    cases h
    exact hk
  · rw [if_neg hc8] at h
    refine ev_iinc (v := (x3 + (-1 : Int32))) (lv1 := [some (.ref 42), some (.int x1), some (.int x2), some (.int (x3 + (-1 : Int32))), none, none, none]) od_205_56 rfl rfl rfl ?_
    refine ev_goto (t := 41) od_205_59 (by decide) ?_
    cases h
    exact hk
def b205_100 (x5 : Int32) (x6 : Int32) (S : ov_S) : Option ((Int32 × Int32 × ov_S) ⊕ (ov_S)) :=
  (if x6 ≤ x5 then some (.inr S) else ov_ck (ov_ibb x5 6) (ov_ck (ov_ibb x6 6) (ov_ck (ov_ibb x5 6) (ov_ck (ov_ibb x6 6) (some (.inl ((x5 + (1 : Int32)), (x6 + (-1 : Int32)), (ov_up (ov_up S 64 (x5).toNatClampNeg (S 64 (x6).toNatClampNeg)) 64 (x6).toNatClampNeg (S 64 (x5).toNatClampNeg)))))))))
theorem bt205_100 {L : Nat} {S : ov_S} {G : ov_L2} {x5 : Int32} {x6 : Int32} {P : Option Value → ov_S → ov_L2 → Prop}  {out : (Int32 × Int32 × ov_S) ⊕ (ov_S)} (h : b205_100 x5 x6 S = some out) (hk : ov_sm (σ := Int32 × Int32 × ov_S) (ε := (ov_S)) (fun s => ov_J L 0 205 100 [some (.ref 42), none, none, none, none, some (.int s.1), some (.int s.2.1)] [] s.2.2 G P) (fun e => ov_J L 0 205 148 [none, none, none, none, none, none, none] [] e G P) out) : ov_J L 0 205 100 [some (.ref 42), none, none, none, none, some (.int x5), some (.int x6)] [] S G P := by
  unfold b205_100 at h
  refine ev_iload od_205_100 rfl ?_
  refine ev_iload od_205_102 rfl ?_
  refine ev_icmp_ge (t := 148) od_205_104 (by decide) (fun hc18 => ?_) (fun hc18 => ?_)
  · rw [if_pos hc18] at h
    cases h
    refine ev_fg (lv0 := [none, none, none, none, none, none, none]) (ov_le_n (ov_le_n (ov_le_n (ov_le_n (ov_le_n (ov_le_n (ov_le_n (ov_le_e)))))))) ?_
    exact hk
  · rw [if_neg hc18] at h
    refine ev_aload_n od_205_107 rfl ?_
    refine ev_gf (v := .ref 64) og_205_108 oO_42 rfl ?_
    refine ev_iload od_205_111 rfl ?_
    obtain ⟨bq14, h⟩ := ov_ck_ok h
    refine ev_iald od_205_113 oA_64 (ov_ibk bq14) ?_
    refine ev_istore (lv1 := [some (.ref 42), none, none, none, some (.int (S 64 (x5).toNatClampNeg)), some (.int x5), some (.int x6)]) od_205_114 rfl rfl ?_
    refine ev_aload_n od_205_116 rfl ?_
    refine ev_gf (v := .ref 64) og_205_117 oO_42 rfl ?_
    refine ev_iload od_205_120 rfl ?_
    refine ev_aload_n od_205_122 rfl ?_
    refine ev_gf (v := .ref 64) og_205_123 oO_42 rfl ?_
    refine ev_iload od_205_126 rfl ?_
    obtain ⟨bq15, h⟩ := ov_ck_ok h
    refine ev_iald od_205_128 oA_64 (ov_ibk bq15) ?_
    obtain ⟨bq16, h⟩ := ov_ck_ok h
    refine ev_iast od_205_129 oA_64 (ov_ibk bq16) ?_
    refine ev_aload_n od_205_130 rfl ?_
    refine ev_gf (v := .ref 64) og_205_131 oO_42 rfl ?_
    refine ev_iload od_205_134 rfl ?_
    refine ev_iload od_205_136 rfl ?_
    obtain ⟨bq17, h⟩ := ov_ck_ok h
    refine ev_iast od_205_138 oA_64 (ov_ibk bq17) ?_
    refine ev_iinc (v := (x5 + (1 : Int32))) (lv1 := [some (.ref 42), none, none, none, some (.int (S 64 (x5).toNatClampNeg)), some (.int (x5 + (1 : Int32))), some (.int x6)]) od_205_139 rfl rfl rfl ?_
    refine ev_iinc (v := (x6 + (-1 : Int32))) (lv1 := [some (.ref 42), none, none, none, some (.int (S 64 (x5).toNatClampNeg)), some (.int (x5 + (1 : Int32))), some (.int (x6 + (-1 : Int32)))]) od_205_142 rfl rfl rfl ?_
    refine ev_goto (t := 100) od_205_145 (by decide) ?_
    cases h
    refine ev_fg (lv0 := [some (.ref 42), none, none, none, none, some (.int (x5 + (1 : Int32))), some (.int (x6 + (-1 : Int32)))]) (ov_le_s (ov_le_n (ov_le_n (ov_le_n (ov_le_n (ov_le_s (ov_le_s (ov_le_e)))))))) ?_
    exact hk
def f205_31 (S : ov_S) (x1 : Int32) (x2 : Int32) : Option (Int32 × ov_S) :=
  (if 0 ≤ x2 then ((ov_lp (fun s => b205_41 S x1 x2 s) 2000 (x1 - (1 : Int32))).bind fun e9 => ov_ck (ov_ibb x2 6) (ov_ck (ov_ibb e9 6) (ov_ck (ov_ibb x2 6) (ov_ck (ov_ibb e9 6) (((ov_lp (fun s => b205_100  s.1 s.2.1 s.2.2) 2000 ((x2 + (1 : Int32)), (x1 - (1 : Int32)), (ov_up (ov_up S 64 (x2).toNatClampNeg (S 64 (e9).toNatClampNeg)) 64 (e9).toNatClampNeg (S 64 (x2).toNatClampNeg)))).bind fun e19 => some ((1 : Int32), e19))))))) else some ((0 : Int32), S))
theorem t205_31 {L : Nat} {S : ov_S} {G : ov_L2} {x1 : Int32} {x2 : Int32} {P : Option Value → ov_S → ov_L2 → Prop}  {out : Int32 × ov_S} (h : f205_31 S x1 x2 = some out) (hP : P (some (.int out.1)) out.2 G) : ov_J L 0 205 31 [some (.ref 42), some (.int x1), some (.int x2), none, none, none, none] [] S G P := by
  unfold f205_31 at h
  refine ev_iload_n od_205_31 rfl ?_
  refine ev_if_ge (t := 37) od_205_32 (by decide) (fun hc20 => ?_) (fun hc20 => ?_)
  · rw [if_pos hc20] at h
    refine ev_iload_n od_205_37 rfl ?_
    refine ev_iconst (v := (1 : Int32)) od_205_38 (by decide) ?_
    refine ev_isub od_205_39 ?_
    refine ev_istore_n (lv1 := [some (.ref 42), some (.int x1), some (.int x2), some (.int (x1 - (1 : Int32))), none, none, none]) od_205_40 rfl rfl ?_
    obtain ⟨e9, he9, h⟩ := ov_bd h
    try dsimp only at h
    refine ov_lp_S (body := (fun s => b205_41 S x1 x2 s)) (head := (fun s => ov_J L 0 205 41 [some (.ref 42), some (.int x1), some (.int x2), some (.int s), none, none, none] [] S G P)) (exit := (fun e => ov_J L 0 205 62 [some (.ref 42), some (.int x1), some (.int x2), some (.int e), none, none, none] [] S G P)) (fun s r hb hk => bt205_41  hb hk) 2000 (x1 - (1 : Int32)) e9 he9 ?_
    show ov_J L 0 205 62 [some (.ref 42), some (.int x1), some (.int x2), some (.int e9), none, none, none] [] S G P
    refine ev_aload_n od_205_62 rfl ?_
    refine ev_gf (v := .ref 64) og_205_63 oO_42 rfl ?_
    refine ev_iload_n od_205_66 rfl ?_
    obtain ⟨bq10, h⟩ := ov_ck_ok h
    refine ev_iald od_205_67 oA_64 (ov_ibk bq10) ?_
    refine ev_istore (lv1 := [some (.ref 42), some (.int x1), some (.int x2), some (.int e9), some (.int (S 64 (x2).toNatClampNeg)), none, none]) od_205_68 rfl rfl ?_
    refine ev_aload_n od_205_70 rfl ?_
    refine ev_gf (v := .ref 64) og_205_71 oO_42 rfl ?_
    refine ev_iload_n od_205_74 rfl ?_
    refine ev_aload_n od_205_75 rfl ?_
    refine ev_gf (v := .ref 64) og_205_76 oO_42 rfl ?_
    refine ev_iload_n od_205_79 rfl ?_
    obtain ⟨bq11, h⟩ := ov_ck_ok h
    refine ev_iald od_205_80 oA_64 (ov_ibk bq11) ?_
    obtain ⟨bq12, h⟩ := ov_ck_ok h
    refine ev_iast od_205_81 oA_64 (ov_ibk bq12) ?_
    refine ev_aload_n od_205_82 rfl ?_
    refine ev_gf (v := .ref 64) og_205_83 oO_42 rfl ?_
    refine ev_iload_n od_205_86 rfl ?_
    refine ev_iload od_205_87 rfl ?_
    obtain ⟨bq13, h⟩ := ov_ck_ok h
    refine ev_iast od_205_89 oA_64 (ov_ibk bq13) ?_
    refine ev_iload_n od_205_90 rfl ?_
    refine ev_iconst (v := (1 : Int32)) od_205_91 (by decide) ?_
    refine ev_iadd od_205_92 ?_
    refine ev_istore (lv1 := [some (.ref 42), some (.int x1), some (.int x2), some (.int e9), some (.int (S 64 (x2).toNatClampNeg)), some (.int (x2 + (1 : Int32))), none]) od_205_93 rfl rfl ?_
    refine ev_iload_n od_205_95 rfl ?_
    refine ev_iconst (v := (1 : Int32)) od_205_96 (by decide) ?_
    refine ev_isub od_205_97 ?_
    refine ev_istore (lv1 := [some (.ref 42), some (.int x1), some (.int x2), some (.int e9), some (.int (S 64 (x2).toNatClampNeg)), some (.int (x2 + (1 : Int32))), some (.int (x1 - (1 : Int32)))]) od_205_98 rfl rfl ?_
    obtain ⟨e19, he19, h⟩ := ov_bd h
    try dsimp only at h
    refine ev_fg (lv0 := [some (.ref 42), none, none, none, none, some (.int (x2 + (1 : Int32))), some (.int (x1 - (1 : Int32)))]) (ov_le_s (ov_le_n (ov_le_n (ov_le_n (ov_le_n (ov_le_s (ov_le_s (ov_le_e)))))))) ?_
    refine ov_lp_S (body := (fun s => b205_100  s.1 s.2.1 s.2.2)) (head := (fun s => ov_J L 0 205 100 [some (.ref 42), none, none, none, none, some (.int s.1), some (.int s.2.1)] [] s.2.2 G P)) (exit := (fun e => ov_J L 0 205 148 [none, none, none, none, none, none, none] [] e G P)) (fun s r hb hk => bt205_100  hb hk) 2000 ((x2 + (1 : Int32)), (x1 - (1 : Int32)), (ov_up (ov_up S 64 (x2).toNatClampNeg (S 64 (e9).toNatClampNeg)) 64 (e9).toNatClampNeg (S 64 (x2).toNatClampNeg))) e19 he19 ?_
    show ov_J L 0 205 148 [none, none, none, none, none, none, none] [] e19 G P
    refine ev_iconst (v := (1 : Int32)) od_205_148 (by decide) ?_
    cases h
    exact ev_zret od_205_149 rfl (by decide) hP
  · rw [if_neg hc20] at h
    refine ev_iconst (v := (0 : Int32)) od_205_35 (by decide) ?_
    cases h
    exact ev_zret od_205_36 rfl (by decide) hP
def f205 (S : ov_S) (x1 : Int32) : Option (Int32 × ov_S) :=
  ((ov_lp (fun s => b205_4 S x1 s) 2000 (x1 - (2 : Int32))).bind fun e5 => f205_31 S x1 e5)
theorem t205 {L : Nat} {S : ov_S} {G : ov_L2} {x1 : Int32} {P : Option Value → ov_S → ov_L2 → Prop}  {out : Int32 × ov_S} (h : f205 S x1 = some out) (hP : P (some (.int out.1)) out.2 G) : ov_J L 0 205 0 [some (.ref 42), some (.int x1), none, none, none, none, none] [] S G P := by
  unfold f205 at h
  refine ev_iload_n od_205_0 rfl ?_
  refine ev_iconst (v := (2 : Int32)) od_205_1 (by decide) ?_
  refine ev_isub od_205_2 ?_
  refine ev_istore_n (lv1 := [some (.ref 42), some (.int x1), some (.int (x1 - (2 : Int32))), none, none, none, none]) od_205_3 rfl rfl ?_
  obtain ⟨e5, he5, h⟩ := ov_bd h
  try dsimp only at h
  refine ov_lp_S (body := (fun s => b205_4 S x1 s)) (head := (fun s => ov_J L 0 205 4 [some (.ref 42), some (.int x1), some (.int s), none, none, none, none] [] S G P)) (exit := (fun e => ov_J L 0 205 31 [some (.ref 42), some (.int x1), some (.int e), none, none, none, none] [] S G P)) (fun s r hb hk => bt205_4  hb hk) 2000 (x1 - (2 : Int32)) e5 he5 ?_
  show ov_J L 0 205 31 [some (.ref 42), some (.int x1), some (.int e5), none, none, none, none] [] S G P
  exact t205_31  h hP
theorem R205 {L : Nat} {S : ov_S} {G : ov_L2} {x1 : Int32}  {out : Int32 × ov_S} (h : f205 S x1 = some out) : ov_R L 1 205 [.ref 42, .int x1] S G (some (.int out.1)) out.2 G :=
  ov_Rof (t205  h ⟨rfl, rfl, rfl⟩)
-- 209 OEModel.power
def b209_5 (x0 : Int64) (x2 : Int32) (x3 : Int64) (x5 : Int32) : Option ((Int64 × Int32) ⊕ (Int64)) :=
  (if x2 ≤ x5 then some (.inr x3) else some (.inl ((x3 * x0), (x5 + (1 : Int32)))))
theorem bt209_5 {L : Nat} {S : ov_S} {G : ov_L2} {x0 : Int64} {x2 : Int32} {x3 : Int64} {x5 : Int32} {P : Option Value → ov_S → ov_L2 → Prop}  {out : (Int64 × Int32) ⊕ (Int64)} (h : b209_5 x0 x2 x3 x5 = some out) (hk : ov_sm (σ := Int64 × Int32) (ε := (Int64)) (fun s => ov_J L 0 209 5 [some (.long x0), none, some (.int x2), some (.long s.1), none, some (.int s.2)] [] S G P) (fun e => ov_J L 0 209 21 [none, none, none, some (.long e), none, none] [] S G P) out) : ov_J L 0 209 5 [some (.long x0), none, some (.int x2), some (.long x3), none, some (.int x5)] [] S G P := by
  unfold b209_5 at h
  refine ev_iload od_209_5 rfl ?_
  refine ev_iload_n od_209_7 rfl ?_
  refine ev_icmp_ge (t := 21) od_209_8 (by decide) (fun hc1 => ?_) (fun hc1 => ?_)
  · rw [if_pos hc1] at h
    cases h
    refine ev_fg (lv0 := [none, none, none, some (.long x3), none, none]) (ov_le_n (ov_le_n (ov_le_n (ov_le_s (ov_le_n (ov_le_n (ov_le_e))))))) ?_
    exact hk
  · rw [if_neg hc1] at h
    refine ev_lload_n od_209_11 rfl ?_
    refine ev_lload_n od_209_12 rfl ?_
    refine ev_lmul od_209_13 ?_
    refine ev_lstore_n (lv1 := [some (.long x0), none, some (.int x2), some (.long (x3 * x0)), none, some (.int x5)]) od_209_14 rfl rfl ?_
    refine ev_iinc (v := (x5 + (1 : Int32))) (lv1 := [some (.long x0), none, some (.int x2), some (.long (x3 * x0)), none, some (.int (x5 + (1 : Int32)))]) od_209_15 rfl rfl rfl ?_
    refine ev_goto (t := 5) od_209_18 (by decide) ?_
    cases h
    exact hk
def f209 (x0 : Int64) (x2 : Int32) : Option (Int64) :=
  ((ov_lp (fun s => b209_5 x0 x2 s.1 s.2) 2000 ((1 : Int64), (0 : Int32))).bind fun e2 => some e2)
theorem t209 {L : Nat} {S : ov_S} {G : ov_L2} {x0 : Int64} {x2 : Int32} {P : Option Value → ov_S → ov_L2 → Prop}  {out : Int64} (h : f209 x0 x2 = some out) (hP : P (some (.long out)) S G) : ov_J L 0 209 0 [some (.long x0), none, some (.int x2), none, none, none] [] S G P := by
  unfold f209 at h
  refine ev_lconst (v := (1 : Int64)) od_209_0 (by decide) ?_
  refine ev_lstore_n (lv1 := [some (.long x0), none, some (.int x2), some (.long (1 : Int64)), none, none]) od_209_1 rfl rfl ?_
  refine ev_iconst (v := (0 : Int32)) od_209_2 (by decide) ?_
  refine ev_istore (lv1 := [some (.long x0), none, some (.int x2), some (.long (1 : Int64)), none, some (.int (0 : Int32))]) od_209_3 rfl rfl ?_
  obtain ⟨e2, he2, h⟩ := ov_bd h
  try dsimp only at h
  refine ov_lp_S (body := (fun s => b209_5 x0 x2 s.1 s.2)) (head := (fun s => ov_J L 0 209 5 [some (.long x0), none, some (.int x2), some (.long s.1), none, some (.int s.2)] [] S G P)) (exit := (fun e => ov_J L 0 209 21 [none, none, none, some (.long e), none, none] [] S G P)) (fun s r hb hk => bt209_5  hb hk) 2000 ((1 : Int64), (0 : Int32)) e2 he2 ?_
  show ov_J L 0 209 21 [none, none, none, some (.long e2), none, none] [] S G P
  refine ev_lload_n od_209_21 rfl ?_
  cases h
  exact ev_lret od_209_22 rfl hP
theorem R209 {L : Nat} {S : ov_S} {G : ov_L2} {x0 : Int64} {x2 : Int32}  {out : Int64} (h : f209 x0 x2 = some out) : ov_R L 1 209 [.long x0, .int x2] S G (some (.long out)) S G :=
  ov_Rof (t209  h ⟨rfl, rfl, rfl⟩)
-- 212 OEModel.ways
def b212_4 (x0 : Int32) (x1 : Int32) (x2 : Int32) : Option ((Int32 × Int32) ⊕ (Int32)) :=
  (if x0 < x2 then some (.inr x1) else some (.inl ((x1 * x2), (x2 + (1 : Int32)))))
theorem bt212_4 {L : Nat} {S : ov_S} {G : ov_L2} {x0 : Int32} {x1 : Int32} {x2 : Int32} {P : Option Value → ov_S → ov_L2 → Prop}  {out : (Int32 × Int32) ⊕ (Int32)} (h : b212_4 x0 x1 x2 = some out) (hk : ov_sm (σ := Int32 × Int32) (ε := (Int32)) (fun s => ov_J L 0 212 4 [some (.int x0), some (.int s.1), some (.int s.2)] [] S G P) (fun e => ov_J L 0 212 19 [none, some (.int e), none] [] S G P) out) : ov_J L 0 212 4 [some (.int x0), some (.int x1), some (.int x2)] [] S G P := by
  unfold b212_4 at h
  refine ev_iload_n od_212_4 rfl ?_
  refine ev_iload_n od_212_5 rfl ?_
  refine ev_icmp_gt (t := 19) od_212_6 (by decide) (fun hc1 => ?_) (fun hc1 => ?_)
  · rw [if_pos hc1] at h
    cases h
    refine ev_fg (lv0 := [none, some (.int x1), none]) (ov_le_n (ov_le_s (ov_le_n (ov_le_e)))) ?_
    exact hk
  · rw [if_neg hc1] at h
    refine ev_iload_n od_212_9 rfl ?_
    refine ev_iload_n od_212_10 rfl ?_
    refine ev_imul od_212_11 ?_
    refine ev_istore_n (lv1 := [some (.int x0), some (.int (x1 * x2)), some (.int x2)]) od_212_12 rfl rfl ?_
    refine ev_iinc (v := (x2 + (1 : Int32))) (lv1 := [some (.int x0), some (.int (x1 * x2)), some (.int (x2 + (1 : Int32)))]) od_212_13 rfl rfl rfl ?_
    refine ev_goto (t := 4) od_212_16 (by decide) ?_
    cases h
    exact hk
def f212 (x0 : Int32) : Option (Int32) :=
  ((ov_lp (fun s => b212_4 x0 s.1 s.2) 2000 ((1 : Int32), (2 : Int32))).bind fun e2 => some e2)
theorem t212 {L : Nat} {S : ov_S} {G : ov_L2} {x0 : Int32} {P : Option Value → ov_S → ov_L2 → Prop}  {out : Int32} (h : f212 x0 = some out) (hP : P (some (.int out)) S G) : ov_J L 0 212 0 [some (.int x0), none, none] [] S G P := by
  unfold f212 at h
  refine ev_iconst (v := (1 : Int32)) od_212_0 (by decide) ?_
  refine ev_istore_n (lv1 := [some (.int x0), some (.int (1 : Int32)), none]) od_212_1 rfl rfl ?_
  refine ev_iconst (v := (2 : Int32)) od_212_2 (by decide) ?_
  refine ev_istore_n (lv1 := [some (.int x0), some (.int (1 : Int32)), some (.int (2 : Int32))]) od_212_3 rfl rfl ?_
  obtain ⟨e2, he2, h⟩ := ov_bd h
  try dsimp only at h
  refine ov_lp_S (body := (fun s => b212_4 x0 s.1 s.2)) (head := (fun s => ov_J L 0 212 4 [some (.int x0), some (.int s.1), some (.int s.2)] [] S G P)) (exit := (fun e => ov_J L 0 212 19 [none, some (.int e), none] [] S G P)) (fun s r hb hk => bt212_4  hb hk) 2000 ((1 : Int32), (2 : Int32)) e2 he2 ?_
  show ov_J L 0 212 19 [none, some (.int e2), none] [] S G P
  refine ev_iload_n od_212_19 rfl ?_
  cases h
  exact ev_iret od_212_20 rfl hP
theorem R212 {L : Nat} {S : ov_S} {G : ov_L2} {x0 : Int32}  {out : Int32} (h : f212 x0 = some out) : ov_R L 1 212 [.int x0] S G (some (.int out)) S G :=
  ov_Rof (t212  h ⟨rfl, rfl, rfl⟩)
-- 214 OEModel.divisor
def b214_13 (x2 : Int32) (x3 : Int32) : Option ((Int32 × Int32) ⊕ (Int32)) :=
  (if x3 = 0 then some (.inr x2) else ov_ck (ov_nz x3) (some (.inl (x3, (x2 - x2 / x3 * x3)))))
theorem bt214_13 {L : Nat} {S : ov_S} {G : ov_L2} {x2 : Int32} {x3 : Int32} {P : Option Value → ov_S → ov_L2 → Prop}  {out : (Int32 × Int32) ⊕ (Int32)} (h : b214_13 x2 x3 = some out) (hk : ov_sm (σ := Int32 × Int32) (ε := (Int32)) (fun s => ov_J L 0 214 13 [none, none, some (.int s.1), some (.int s.2), none] [] S G P) (fun e => ov_J L 0 214 30 [none, none, some (.int e), none, none] [] S G P) out) : ov_J L 0 214 13 [none, none, some (.int x2), some (.int x3), none] [] S G P := by
  unfold b214_13 at h
  refine ev_iload_n od_214_13 rfl ?_
  refine ev_if_eq (t := 30) od_214_14 (by decide) (fun hc2 => ?_) (fun hc2 => ?_)
  · rw [if_pos hc2] at h
    cases h
    refine ev_fg (lv0 := [none, none, some (.int x2), none, none]) (ov_le_n (ov_le_n (ov_le_s (ov_le_n (ov_le_n (ov_le_e)))))) ?_
    exact hk
  · rw [if_neg hc2] at h
    refine ev_iload_n od_214_17 rfl ?_
    refine ev_iload_n od_214_18 rfl ?_
    obtain ⟨bq1, h⟩ := ov_ck_ok h
    refine ev_irem od_214_19 (ov_nzk bq1) ?_
    refine ev_istore (lv1 := [none, none, some (.int x2), some (.int x3), some (.int (x2 - x2 / x3 * x3))]) od_214_20 rfl rfl ?_
    refine ev_iload_n od_214_22 rfl ?_
    refine ev_istore_n (lv1 := [none, none, some (.int x3), some (.int x3), some (.int (x2 - x2 / x3 * x3))]) od_214_23 rfl rfl ?_
    refine ev_iload od_214_24 rfl ?_
    refine ev_istore_n (lv1 := [none, none, some (.int x3), some (.int (x2 - x2 / x3 * x3)), some (.int (x2 - x2 / x3 * x3))]) od_214_26 rfl rfl ?_
    refine ev_goto (t := 13) od_214_27 (by decide) ?_
    cases h
    refine ev_fg (lv0 := [none, none, some (.int x3), some (.int (x2 - x2 / x3 * x3)), none]) (ov_le_n (ov_le_n (ov_le_s (ov_le_s (ov_le_n (ov_le_e)))))) ?_
    exact hk
def f214_10 (x1 : Int32) (s0 : Int32) : Option (Int32) :=
  ((ov_lp (fun s => b214_13  s.1 s.2) 2000 (s0, x1)).bind fun e3 => some e3)
theorem t214_10 {L : Nat} {S : ov_S} {G : ov_L2} {x1 : Int32} {s0 : Int32} {P : Option Value → ov_S → ov_L2 → Prop}  {out : Int32} (h : f214_10 x1 s0 = some out) (hP : P (some (.int out)) S G) : ov_J L 0 214 10 [none, some (.int x1), none, none, none] [.int s0] S G P := by
  unfold f214_10 at h
  refine ev_istore_n (lv1 := [none, some (.int x1), some (.int s0), none, none]) od_214_10 rfl rfl ?_
  refine ev_iload_n od_214_11 rfl ?_
  refine ev_istore_n (lv1 := [none, some (.int x1), some (.int s0), some (.int x1), none]) od_214_12 rfl rfl ?_
  obtain ⟨e3, he3, h⟩ := ov_bd h
  try dsimp only at h
  refine ev_fg (lv0 := [none, none, some (.int s0), some (.int x1), none]) (ov_le_n (ov_le_n (ov_le_s (ov_le_s (ov_le_n (ov_le_e)))))) ?_
  refine ov_lp_S (body := (fun s => b214_13  s.1 s.2)) (head := (fun s => ov_J L 0 214 13 [none, none, some (.int s.1), some (.int s.2), none] [] S G P)) (exit := (fun e => ov_J L 0 214 30 [none, none, some (.int e), none, none] [] S G P)) (fun s r hb hk => bt214_13  hb hk) 2000 (s0, x1) e3 he3 ?_
  show ov_J L 0 214 30 [none, none, some (.int e3), none, none] [] S G P
  refine ev_iload_n od_214_30 rfl ?_
  cases h
  exact ev_iret od_214_31 rfl hP
def f214 (x0 : Int32) (x1 : Int32) : Option (Int32) :=
  (if 0 ≤ x0 then f214_10 x1 x0 else f214_10 x1 (-x0))
theorem t214 {L : Nat} {S : ov_S} {G : ov_L2} {x0 : Int32} {x1 : Int32} {P : Option Value → ov_S → ov_L2 → Prop}  {out : Int32} (h : f214 x0 x1 = some out) (hP : P (some (.int out)) S G) : ov_J L 0 214 0 [some (.int x0), some (.int x1), none, none, none] [] S G P := by
  unfold f214 at h
  refine ev_iload_n od_214_0 rfl ?_
  refine ev_if_ge (t := 9) od_214_1 (by decide) (fun hc4 => ?_) (fun hc4 => ?_)
  · rw [if_pos hc4] at h
    refine ev_iload_n od_214_9 rfl ?_
    refine ev_fg (lv0 := [none, some (.int x1), none, none, none]) (ov_le_n (ov_le_s (ov_le_n (ov_le_n (ov_le_n (ov_le_e)))))) ?_
    exact t214_10  h hP
  · rw [if_neg hc4] at h
    refine ev_iload_n od_214_4 rfl ?_
    refine ev_ineg od_214_5 ?_
    refine ev_goto (t := 10) od_214_6 (by decide) ?_
    refine ev_fg (lv0 := [none, some (.int x1), none, none, none]) (ov_le_n (ov_le_s (ov_le_n (ov_le_n (ov_le_n (ov_le_e)))))) ?_
    exact t214_10  h hP
theorem R214 {L : Nat} {S : ov_S} {G : ov_L2} {x0 : Int32} {x1 : Int32}  {out : Int32} (h : f214 x0 x1 = some out) : ov_R L 1 214 [.int x0, .int x1] S G (some (.int out)) S G :=
  ov_Rof (t214  h ⟨rfl, rfl, rfl⟩)
-- 216 OEModel.untread
def f216 (S : ov_S) : Option (Int32 × ov_S) :=
  some (((ov_up S 42 0 (0 : Int32)) 42 30), (ov_up (ov_up S 42 0 (0 : Int32)) 42 30 (0 : Int32)))
theorem t216 {L : Nat} {S : ov_S} {G : ov_L2}  {P : Option Value → ov_S → ov_L2 → Prop}  {out : Int32 × ov_S} (h : f216 S = some out) (hP : P (some (.int out.1)) out.2 G) : ov_J L 0 216 0 [some (.ref 42), none] [] S G P := by
  unfold f216 at h
  refine ev_aload_n od_216_0 rfl ?_
  refine ev_iconst (v := (0 : Int32)) od_216_1 (by decide) ?_
  refine ev_pf op_216_2 oO_42 rfl rfl ?_
  refine ev_aload_n od_216_5 rfl ?_
  refine ev_gf (v := .int ((ov_up S 42 0 (0 : Int32)) 42 30)) og_216_6 oO_42 rfl ?_
  refine ev_istore_n (lv1 := [some (.ref 42), some (.int ((ov_up S 42 0 (0 : Int32)) 42 30))]) od_216_9 rfl rfl ?_
  refine ev_aload_n od_216_10 rfl ?_
  refine ev_iconst (v := (0 : Int32)) od_216_11 (by decide) ?_
  refine ev_pf op_216_12 oO_42 rfl rfl ?_
  refine ev_iload_n od_216_15 rfl ?_
  cases h
  exact ev_iret od_216_16 rfl hP
theorem R216 {L : Nat} {S : ov_S} {G : ov_L2}   {out : Int32 × ov_S} (h : f216 S = some out) : ov_R L 1 216 [.ref 42] S G (some (.int out.1)) out.2 G :=
  ov_Rof (t216  h ⟨rfl, rfl, rfl⟩)
-- 222 OEModel.seed
def f222 (S : ov_S) (G : ov_L2) (x1 : Int64) : Option (Int64 × ov_S × ov_L2) :=
  some ((G 42), (ov_up S 42 0 (0 : Int32)), (ov_ug G 42 x1))
theorem t222 {L : Nat} {S : ov_S} {G : ov_L2} {x1 : Int64} {P : Option Value → ov_S → ov_L2 → Prop}  {out : Int64 × ov_S × ov_L2} (h : f222 S G x1 = some out) (hP : P (some (.long out.1)) out.2.1 out.2.2) : ov_J L 0 222 0 [some (.ref 42), some (.long x1), none, none, none] [] S G P := by
  unfold f222 at h
  refine ev_aload_n od_222_0 rfl ?_
  refine ev_iconst (v := (0 : Int32)) od_222_1 (by decide) ?_
  refine ev_pf op_222_2 oO_42 rfl rfl ?_
  refine ev_aload_n od_222_5 rfl ?_
  refine ev_gf (v := .long (G 42)) og_222_6 oO_42 rfl ?_
  refine ev_lstore_n (lv1 := [some (.ref 42), some (.long x1), none, some (.long (G 42)), none]) od_222_9 rfl rfl ?_
  refine ev_aload_n od_222_10 rfl ?_
  refine ev_lload_n od_222_11 rfl ?_
  refine ev_pfl op_222_12 oO_42 rfl oG_42 rfl ?_
  refine ev_lload_n od_222_15 rfl ?_
  cases h
  exact ev_lret od_222_16 rfl hP
theorem R222 {L : Nat} {S : ov_S} {G : ov_L2} {x1 : Int64}  {out : Int64 × ov_S × ov_L2} (h : f222 S G x1 = some out) : ov_R L 1 222 [.ref 42, .long x1] S G (some (.long out.1)) out.2.1 out.2.2 :=
  ov_Rof (t222  h ⟨rfl, rfl, rfl⟩)
-- 6 OE$Play.toldStoolCell
def f6 (a : Nat) (S : ov_S) (x1 : Int32) : Option (Int32) :=
  (f7 a S x1).bind fun y1 => (if y1 = 0 then some (-9 : Int32) else ov_ck (ov_ibb x1 4) (some (S (a + 2) (x1).toNatClampNeg)))
theorem t6 {L : Nat} {S : ov_S} {G : ov_L2} {a : Nat} {x1 : Int32} {P : Option Value → ov_S → ov_L2 → Prop} (ha : ov_Pl a) {out : Int32} (h : f6 a S x1 = some out) (hP : P (some (.int out)) S G) : ov_J L 1 6 0 [some (.ref a), some (.int x1)] [] S G P := by
  unfold f6 at h
  refine ev_aload_n od_6_0 rfl ?_
  refine ev_iload_n od_6_1 rfl ?_
  obtain ⟨y1, hy1, h⟩ := ov_bd h
  try dsimp only at h
  refine ev_cvi (y := 7) (n := 1) (a := a) (c := 2) (as := [.int x1]) (rest := []) (dc := 1) oc_6_2 rfl rfl rfl (pl_O ha) rfl rfl rfl rfl (by decide) (R7 ha hy1) ?_
  refine ev_if_eq (t := 17) od_6_5 (by decide) (fun hc3 => ?_) (fun hc3 => ?_)
  · rw [if_pos hc3] at h
    refine ev_bipush (v := (-9 : Int32)) od_6_17 (by decide) ?_
    cases h
    exact ev_iret od_6_19 rfl hP
  · rw [if_neg hc3] at h
    refine ev_aload_n od_6_8 rfl ?_
    refine ev_gf (v := .ref (a + 2)) og_6_9 (pl_O ha) (pl_v5 ha) ?_
    refine ev_iload_n od_6_12 rfl ?_
    obtain ⟨bq2, h⟩ := ov_ck_ok h
    refine ev_iald od_6_13 (pl_A2 ha) (pl_i2 ha bq2) ?_
    refine ev_goto (t := 19) od_6_14 (by decide) ?_
    cases h
    exact ev_iret od_6_19 rfl hP
theorem R6 {L : Nat} {S : ov_S} {G : ov_L2} {a : Nat} {x1 : Int32} (ha : ov_Pl a) {out : Int32} (h : f6 a S x1 = some out) : ov_R L 2 6 [.ref a, .int x1] S G (some (.int out)) S G :=
  ov_Rof (t6 ha h ⟨rfl, rfl, rfl⟩)
-- 12 OE.write
def f12 (S : ov_S) (x1 : Int32) : Option (Int32 × ov_S) :=
  (if x1 < 0 then some ((-2 : Int32), S) else (if x1 ≤ (255 : Int32) then (f13 S x1).bind fun y1 => (if y1.1 = 0 then some ((-4 : Int32), y1.2) else (f14 y1.2).bind fun y2 => some (y2, y1.2)) else some ((-2 : Int32), S)))
theorem t12 {L : Nat} {S : ov_S} {G : ov_L2} {x1 : Int32} {P : Option Value → ov_S → ov_L2 → Prop}  {out : Int32 × ov_S} (h : f12 S x1 = some out) (hP : P (some (.int out.1)) out.2 G) : ov_J L 1 12 0 [some (.ref 1), some (.int x1)] [] S G P := by
  unfold f12 at h
  refine ev_iload_n od_12_0 rfl ?_
  refine ev_if_lt (t := 11) od_12_1 (by decide) (fun hc5 => ?_) (fun hc5 => ?_)
  · rw [if_pos hc5] at h
    refine ev_bipush (v := (-2 : Int32)) od_12_11 (by decide) ?_
    cases h
    exact ev_iret od_12_13 rfl hP
  · rw [if_neg hc5] at h
    refine ev_iload_n od_12_4 rfl ?_
    refine ev_sipush (v := (255 : Int32)) od_12_5 (by decide) ?_
    refine ev_icmp_le (t := 14) od_12_8 (by decide) (fun hc4 => ?_) (fun hc4 => ?_)
    · rw [if_pos hc4] at h
      refine ev_aload_n od_12_14 rfl ?_
      refine ev_gf (v := .ref 2) og_12_15 oO_1 rfl ?_
      refine ev_iload_n od_12_18 rfl ?_
      obtain ⟨y1, hy1, h⟩ := ov_bd h
      try dsimp only at h
      refine ev_cvi (y := 13) (n := 1) (a := 2) (c := 1) (as := [.int x1]) (rest := []) (dc := 1) oc_12_19 rfl rfl rfl oO_2 rfl rfl rfl rfl (by decide) (R13  hy1) ?_
      refine ev_if_eq (t := 35) od_12_22 (by decide) (fun hc3 => ?_) (fun hc3 => ?_)
      · rw [if_pos hc3] at h
        refine ev_bipush (v := (-4 : Int32)) od_12_35 (by decide) ?_
        cases h
        exact ev_iret od_12_37 rfl hP
      · rw [if_neg hc3] at h
        refine ev_aload_n od_12_25 rfl ?_
        refine ev_gf (v := .ref 2) og_12_26 oO_1 rfl ?_
        obtain ⟨y2, hy2, h⟩ := ov_bd h
        try dsimp only at h
        refine ev_cvi (y := 14) (n := 0) (a := 2) (c := 1) (as := []) (rest := []) (dc := 1) oc_12_29 rfl rfl rfl oO_2 rfl rfl rfl rfl (by decide) (R14  hy2) ?_
        refine ev_goto (t := 37) od_12_32 (by decide) ?_
        cases h
        exact ev_iret od_12_37 rfl hP
    · rw [if_neg hc4] at h
      refine ev_bipush (v := (-2 : Int32)) od_12_11 (by decide) ?_
      cases h
      exact ev_iret od_12_13 rfl hP
theorem R12 {L : Nat} {S : ov_S} {G : ov_L2} {x1 : Int32}  {out : Int32 × ov_S} (h : f12 S x1 = some out) : ov_R L 2 12 [.ref 1, .int x1] S G (some (.int out.1)) out.2 G :=
  ov_Rof (t12  h ⟨rfl, rfl, rfl⟩)
-- 15 OE.wipe
def f15 (S : ov_S) : Option (Int32 × ov_S) :=
  (f14 S).bind fun y1 => (f16 S).bind fun y2 => some (y1, y2)
theorem t15 {L : Nat} {S : ov_S} {G : ov_L2}  {P : Option Value → ov_S → ov_L2 → Prop}  {out : Int32 × ov_S} (h : f15 S = some out) (hP : P (some (.int out.1)) out.2 G) : ov_J L 1 15 0 [some (.ref 1), none] [] S G P := by
  unfold f15 at h
  refine ev_aload_n od_15_0 rfl ?_
  refine ev_gf (v := .ref 2) og_15_1 oO_1 rfl ?_
  obtain ⟨y1, hy1, h⟩ := ov_bd h
  try dsimp only at h
  refine ev_cvi (y := 14) (n := 0) (a := 2) (c := 1) (as := []) (rest := []) (dc := 1) oc_15_4 rfl rfl rfl oO_2 rfl rfl rfl rfl (by decide) (R14  hy1) ?_
  refine ev_istore_n (lv1 := [some (.ref 1), some (.int y1)]) od_15_7 rfl rfl ?_
  refine ev_aload_n od_15_8 rfl ?_
  refine ev_gf (v := .ref 2) og_15_9 oO_1 rfl ?_
  obtain ⟨y2, hy2, h⟩ := ov_bd h
  try dsimp only at h
  refine ev_cvv (y := 16) (n := 0) (a := 2) (c := 1) (as := []) (rest := []) (dc := 1) oc_15_12 rfl rfl rfl oO_2 rfl rfl rfl rfl (by decide) (R16  hy2) ?_
  refine ev_iload_n od_15_15 rfl ?_
  cases h
  exact ev_iret od_15_16 rfl hP
theorem R15 {L : Nat} {S : ov_S} {G : ov_L2}   {out : Int32 × ov_S} (h : f15 S = some out) : ov_R L 2 15 [.ref 1] S G (some (.int out.1)) out.2 G :=
  ov_Rof (t15  h ⟨rfl, rfl, rfl⟩)
-- 22 OE$Play.takeDoor
def f22 (a : Nat) (S : ov_S) (x1 : Int32) : Option (Int32 × ov_S) :=
  (if (3 : Int32) ≤ (S a 0) then some ((0 : Int32), S) else (if ((258048 : Int32) &&& ((S a 11) ^^^ (-1 : Int32))) = 0 then some ((0 : Int32), S) else (f23 ((258048 : Int32) &&& ((S a 11) ^^^ (-1 : Int32))) x1).bind fun y2 => (if y2 = 0 then some ((1 : Int32), S) else ov_ck (ov_ibb (S a 0) 3) ((f24 x1).bind fun y4 => some ((2 : Int32), (ov_up (ov_up (ov_up S (a + 1) ((S a 0)).toNatClampNeg x1) a 0 (((ov_up S (a + 1) ((S a 0)).toNatClampNeg x1) a 0) + (1 : Int32))) a 11 (((ov_up (ov_up S (a + 1) ((S a 0)).toNatClampNeg x1) a 0 (((ov_up S (a + 1) ((S a 0)).toNatClampNeg x1) a 0) + (1 : Int32))) a 11) ||| y4)))))))
theorem t22 {L : Nat} {S : ov_S} {G : ov_L2} {a : Nat} {x1 : Int32} {P : Option Value → ov_S → ov_L2 → Prop} (ha : ov_Pl a) {out : Int32 × ov_S} (h : f22 a S x1 = some out) (hP : P (some (.int out.1)) out.2 G) : ov_J L 1 22 0 [some (.ref a), some (.int x1), none] [] S G P := by
  unfold f22 at h
  obtain ⟨w1, hw1⟩ := ok_22_0
  refine ev_ldc od_22_0 hw1 ?_
  refine ev_aload_n od_22_2 rfl ?_
  refine ev_gf (v := .int (S a 11)) og_22_3 (pl_O ha) (pl_v11 ha) ?_
  refine ev_iconst (v := (-1 : Int32)) od_22_6 (by decide) ?_
  refine ev_ixor od_22_7 ?_
  refine ev_iand od_22_8 ?_
  refine ev_istore_n (lv1 := [some (.ref a), some (.int x1), some (.int ((258048 : Int32) &&& ((S a 11) ^^^ (-1 : Int32))))]) od_22_9 rfl rfl ?_
  refine ev_aload_n od_22_10 rfl ?_
  refine ev_gf (v := .int (S a 0)) og_22_11 (pl_O ha) (pl_v0 ha) ?_
  refine ev_iconst (v := (3 : Int32)) od_22_14 (by decide) ?_
  refine ev_icmp_ge (t := 22) od_22_15 (by decide) (fun hc7 => ?_) (fun hc7 => ?_)
  · rw [if_pos hc7] at h
    refine ev_iconst (v := (0 : Int32)) od_22_22 (by decide) ?_
    cases h
    exact ev_iret od_22_23 rfl hP
  · rw [if_neg hc7] at h
    refine ev_iload_n od_22_18 rfl ?_
    refine ev_if_ne (t := 24) od_22_19 (by decide) (fun hc6 => ?_) (fun hc6 => ?_)
    · rw [if_neg hc6] at h
      refine ev_iload_n od_22_24 rfl ?_
      refine ev_iload_n od_22_25 rfl ?_
      obtain ⟨y2, hy2, h⟩ := ov_bd h
      try dsimp only at h
      refine ev_csi (y := 23) (n := 2) (as := [.int ((258048 : Int32) &&& ((S a 11) ^^^ (-1 : Int32))), .int x1]) (rest := []) (dc := 1) oc_22_26 rfl rfl rfl rfl rfl (by decide) (R23  hy2) ?_
      refine ev_if_ne (t := 34) od_22_29 (by decide) (fun hc5 => ?_) (fun hc5 => ?_)
      · rw [if_neg hc5] at h
        refine ev_aload_n od_22_34 rfl ?_
        refine ev_gf (v := .ref (a + 1)) og_22_35 (pl_O ha) (pl_v4 ha) ?_
        refine ev_aload_n od_22_38 rfl ?_
        refine ev_gf (v := .int (S a 0)) og_22_39 (pl_O ha) (pl_v0 ha) ?_
        refine ev_iload_n od_22_42 rfl ?_
        obtain ⟨bq3, h⟩ := ov_ck_ok h
        refine ev_iast od_22_43 (pl_A1 ha) (pl_i1 ha bq3) ?_
        refine ev_aload_n od_22_44 rfl ?_
        refine ev_dup od_22_45 rfl ?_
        refine ev_gf (v := .int ((ov_up S (a + 1) ((S a 0)).toNatClampNeg x1) a 0)) og_22_46 (pl_O ha) (pl_v0 ha) ?_
        refine ev_iconst (v := (1 : Int32)) od_22_49 (by decide) ?_
        refine ev_iadd od_22_50 ?_
        refine ev_pf op_22_51 (pl_O ha) (pl_c0 ha) rfl ?_
        refine ev_aload_n od_22_54 rfl ?_
        refine ev_dup od_22_55 rfl ?_
        refine ev_gf (v := .int ((ov_up (ov_up S (a + 1) ((S a 0)).toNatClampNeg x1) a 0 (((ov_up S (a + 1) ((S a 0)).toNatClampNeg x1) a 0) + (1 : Int32))) a 11)) og_22_56 (pl_O ha) (pl_v11 ha) ?_
        refine ev_iload_n od_22_59 rfl ?_
        obtain ⟨y4, hy4, h⟩ := ov_bd h
        try dsimp only at h
        refine ev_csi (y := 24) (n := 1) (as := [.int x1]) (rest := [.int ((ov_up (ov_up S (a + 1) ((S a 0)).toNatClampNeg x1) a 0 (((ov_up S (a + 1) ((S a 0)).toNatClampNeg x1) a 0) + (1 : Int32))) a 11), .ref a]) (dc := 1) oc_22_60 rfl rfl rfl rfl rfl (by decide) (R24  hy4) ?_
        refine ev_ior od_22_63 ?_
        refine ev_pf op_22_64 (pl_O ha) (pl_c11 ha) rfl ?_
        refine ev_iconst (v := (2 : Int32)) od_22_67 (by decide) ?_
        cases h
        exact ev_iret od_22_68 rfl hP
      · rw [if_pos hc5] at h
        refine ev_iconst (v := (1 : Int32)) od_22_32 (by decide) ?_
        cases h
        exact ev_iret od_22_33 rfl hP
    · rw [if_pos hc6] at h
      refine ev_iconst (v := (0 : Int32)) od_22_22 (by decide) ?_
      cases h
      exact ev_iret od_22_23 rfl hP
theorem R22 {L : Nat} {S : ov_S} {G : ov_L2} {a : Nat} {x1 : Int32} (ha : ov_Pl a) {out : Int32 × ov_S} (h : f22 a S x1 = some out) : ov_R L 2 22 [.ref a, .int x1] S G (some (.int out.1)) out.2 G :=
  ov_Rof (t22 ha h ⟨rfl, rfl, rfl⟩)
-- 25 OE$Play.takeStool
def f25 (a : Nat) (S : ov_S) (x1 : Int32) : Option (Int32 × ov_S) :=
  (if (S a 1) < (4 : Int32) then (f23 ((262143 : Int32) &&& ((S a 11) ^^^ (-1 : Int32))) x1).bind fun y2 => (if y2 = 0 then some ((1 : Int32), S) else ov_ck (ov_ibb (S a 1) 4) ((f24 x1).bind fun y4 => some ((2 : Int32), (ov_up (ov_up (ov_up S (a + 2) ((S a 1)).toNatClampNeg x1) a 1 (((ov_up S (a + 2) ((S a 1)).toNatClampNeg x1) a 1) + (1 : Int32))) a 11 (((ov_up (ov_up S (a + 2) ((S a 1)).toNatClampNeg x1) a 1 (((ov_up S (a + 2) ((S a 1)).toNatClampNeg x1) a 1) + (1 : Int32))) a 11) ||| y4))))) else some ((0 : Int32), S))
theorem t25 {L : Nat} {S : ov_S} {G : ov_L2} {a : Nat} {x1 : Int32} {P : Option Value → ov_S → ov_L2 → Prop} (ha : ov_Pl a) {out : Int32 × ov_S} (h : f25 a S x1 = some out) (hP : P (some (.int out.1)) out.2 G) : ov_J L 1 25 0 [some (.ref a), some (.int x1)] [] S G P := by
  unfold f25 at h
  refine ev_aload_n od_25_0 rfl ?_
  refine ev_gf (v := .int (S a 1)) og_25_1 (pl_O ha) (pl_v1 ha) ?_
  refine ev_iconst (v := (4 : Int32)) od_25_4 (by decide) ?_
  refine ev_icmp_lt (t := 10) od_25_5 (by decide) (fun hc6 => ?_) (fun hc6 => ?_)
  · rw [if_pos hc6] at h
    obtain ⟨w1, hw1⟩ := ok_25_10
    refine ev_ldc od_25_10 hw1 ?_
    refine ev_aload_n od_25_12 rfl ?_
    refine ev_gf (v := .int (S a 11)) og_25_13 (pl_O ha) (pl_v11 ha) ?_
    refine ev_iconst (v := (-1 : Int32)) od_25_16 (by decide) ?_
    refine ev_ixor od_25_17 ?_
    refine ev_iand od_25_18 ?_
    refine ev_iload_n od_25_19 rfl ?_
    obtain ⟨y2, hy2, h⟩ := ov_bd h
    try dsimp only at h
    refine ev_csi (y := 23) (n := 2) (as := [.int ((262143 : Int32) &&& ((S a 11) ^^^ (-1 : Int32))), .int x1]) (rest := []) (dc := 1) oc_25_20 rfl rfl rfl rfl rfl (by decide) (R23  hy2) ?_
    refine ev_if_ne (t := 28) od_25_23 (by decide) (fun hc5 => ?_) (fun hc5 => ?_)
    · rw [if_neg hc5] at h
      refine ev_aload_n od_25_28 rfl ?_
      refine ev_gf (v := .ref (a + 2)) og_25_29 (pl_O ha) (pl_v5 ha) ?_
      refine ev_aload_n od_25_32 rfl ?_
      refine ev_gf (v := .int (S a 1)) og_25_33 (pl_O ha) (pl_v1 ha) ?_
      refine ev_iload_n od_25_36 rfl ?_
      obtain ⟨bq3, h⟩ := ov_ck_ok h
      refine ev_iast od_25_37 (pl_A2 ha) (pl_i2 ha bq3) ?_
      refine ev_aload_n od_25_38 rfl ?_
      refine ev_dup od_25_39 rfl ?_
      refine ev_gf (v := .int ((ov_up S (a + 2) ((S a 1)).toNatClampNeg x1) a 1)) og_25_40 (pl_O ha) (pl_v1 ha) ?_
      refine ev_iconst (v := (1 : Int32)) od_25_43 (by decide) ?_
      refine ev_iadd od_25_44 ?_
      refine ev_pf op_25_45 (pl_O ha) (pl_c1 ha) rfl ?_
      refine ev_aload_n od_25_48 rfl ?_
      refine ev_dup od_25_49 rfl ?_
      refine ev_gf (v := .int ((ov_up (ov_up S (a + 2) ((S a 1)).toNatClampNeg x1) a 1 (((ov_up S (a + 2) ((S a 1)).toNatClampNeg x1) a 1) + (1 : Int32))) a 11)) og_25_50 (pl_O ha) (pl_v11 ha) ?_
      refine ev_iload_n od_25_53 rfl ?_
      obtain ⟨y4, hy4, h⟩ := ov_bd h
      try dsimp only at h
      refine ev_csi (y := 24) (n := 1) (as := [.int x1]) (rest := [.int ((ov_up (ov_up S (a + 2) ((S a 1)).toNatClampNeg x1) a 1 (((ov_up S (a + 2) ((S a 1)).toNatClampNeg x1) a 1) + (1 : Int32))) a 11), .ref a]) (dc := 1) oc_25_54 rfl rfl rfl rfl rfl (by decide) (R24  hy4) ?_
      refine ev_ior od_25_57 ?_
      refine ev_pf op_25_58 (pl_O ha) (pl_c11 ha) rfl ?_
      refine ev_iconst (v := (2 : Int32)) od_25_61 (by decide) ?_
      cases h
      exact ev_iret od_25_62 rfl hP
    · rw [if_pos hc5] at h
      refine ev_iconst (v := (1 : Int32)) od_25_26 (by decide) ?_
      cases h
      exact ev_iret od_25_27 rfl hP
  · rw [if_neg hc6] at h
    refine ev_iconst (v := (0 : Int32)) od_25_8 (by decide) ?_
    cases h
    exact ev_iret od_25_9 rfl hP
theorem R25 {L : Nat} {S : ov_S} {G : ov_L2} {a : Nat} {x1 : Int32} (ha : ov_Pl a) {out : Int32 × ov_S} (h : f25 a S x1 = some out) : ov_R L 2 25 [.ref a, .int x1] S G (some (.int out.1)) out.2 G :=
  ov_Rof (t25 ha h ⟨rfl, rfl, rfl⟩)
-- 26 OE$Play.takePart
def f26_79 (a : Nat) (S : ov_S) (s0 : Int32) : Option (Int32 × ov_S) :=
  some ((3 : Int32), (ov_up (ov_up S a 10 s0) a 2 (((ov_up S a 10 s0) a 2) + (1 : Int32))))
theorem t26_79 {L : Nat} {S : ov_S} {G : ov_L2} {a : Nat} {s0 : Int32} {P : Option Value → ov_S → ov_L2 → Prop} (ha : ov_Pl a) {out : Int32 × ov_S} (h : f26_79 a S s0 = some out) (hP : P (some (.int out.1)) out.2 G) : ov_J L 1 26 79 [some (.ref a), none, none] [.int s0, .ref a] S G P := by
  unfold f26_79 at h
  refine ev_pf op_26_79 (pl_O ha) (pl_c10 ha) rfl ?_
  refine ev_aload_n od_26_82 rfl ?_
  refine ev_dup od_26_83 rfl ?_
  refine ev_gf (v := .int ((ov_up S a 10 s0) a 2)) og_26_84 (pl_O ha) (pl_v2 ha) ?_
  refine ev_iconst (v := (1 : Int32)) od_26_87 (by decide) ?_
  refine ev_iadd od_26_88 ?_
  refine ev_pf op_26_89 (pl_O ha) (pl_c2 ha) rfl ?_
  refine ev_iconst (v := (3 : Int32)) od_26_92 (by decide) ?_
  cases h
  exact ev_iret od_26_93 rfl hP
def f26 (a : Nat) (S : ov_S) (x1 : Int32) (x2 : Int32) : Option (Int32 × ov_S) :=
  (if (S a 2) < (6 : Int32) then (if x1 < (1 : Int32) then some ((1 : Int32), S) else (if x1 ≤ (9 : Int32) then (if x2 < 0 then some ((2 : Int32), S) else (if x2 ≤ (3 : Int32) then ov_ck (ov_ibb (S a 2) 6) (ov_ck (ov_ibb ((ov_up S (a + 3) ((S a 2)).toNatClampNeg x1) a 2) 6) ((if x2 = (2 : Int32) then (f27 ((ov_up (ov_up S (a + 3) ((S a 2)).toNatClampNeg x1) (a + 4) (((ov_up S (a + 3) ((S a 2)).toNatClampNeg x1) a 2)).toNatClampNeg x2) a 10) ((ov_up (ov_up S (a + 3) ((S a 2)).toNatClampNeg x1) (a + 4) (((ov_up S (a + 3) ((S a 2)).toNatClampNeg x1) a 2)).toNatClampNeg x2) a 2)).bind fun y3 => f26_79 a (ov_up (ov_up S (a + 3) ((S a 2)).toNatClampNeg x1) (a + 4) (((ov_up S (a + 3) ((S a 2)).toNatClampNeg x1) a 2)).toNatClampNeg x2) y3 else f26_79 a (ov_up (ov_up S (a + 3) ((S a 2)).toNatClampNeg x1) (a + 4) (((ov_up S (a + 3) ((S a 2)).toNatClampNeg x1) a 2)).toNatClampNeg x2) ((ov_up (ov_up S (a + 3) ((S a 2)).toNatClampNeg x1) (a + 4) (((ov_up S (a + 3) ((S a 2)).toNatClampNeg x1) a 2)).toNatClampNeg x2) a 10)))) else some ((2 : Int32), S))) else some ((1 : Int32), S))) else some ((0 : Int32), S))
theorem t26 {L : Nat} {S : ov_S} {G : ov_L2} {a : Nat} {x1 : Int32} {x2 : Int32} {P : Option Value → ov_S → ov_L2 → Prop} (ha : ov_Pl a) {out : Int32 × ov_S} (h : f26 a S x1 x2 = some out) (hP : P (some (.int out.1)) out.2 G) : ov_J L 1 26 0 [some (.ref a), some (.int x1), some (.int x2)] [] S G P := by
  unfold f26 at h
  refine ev_aload_n od_26_0 rfl ?_
  refine ev_gf (v := .int (S a 2)) og_26_1 (pl_O ha) (pl_v2 ha) ?_
  refine ev_bipush (v := (6 : Int32)) od_26_4 (by decide) ?_
  refine ev_icmp_lt (t := 11) od_26_6 (by decide) (fun hc9 => ?_) (fun hc9 => ?_)
  · rw [if_pos hc9] at h
    refine ev_iload_n od_26_11 rfl ?_
    refine ev_iconst (v := (1 : Int32)) od_26_12 (by decide) ?_
    refine ev_icmp_lt (t := 22) od_26_13 (by decide) (fun hc8 => ?_) (fun hc8 => ?_)
    · rw [if_pos hc8] at h
      refine ev_iconst (v := (1 : Int32)) od_26_22 (by decide) ?_
      cases h
      exact ev_iret od_26_23 rfl hP
    · rw [if_neg hc8] at h
      refine ev_iload_n od_26_16 rfl ?_
      refine ev_bipush (v := (9 : Int32)) od_26_17 (by decide) ?_
      refine ev_icmp_le (t := 24) od_26_19 (by decide) (fun hc7 => ?_) (fun hc7 => ?_)
      · rw [if_pos hc7] at h
        refine ev_iload_n od_26_24 rfl ?_
        refine ev_if_lt (t := 33) od_26_25 (by decide) (fun hc6 => ?_) (fun hc6 => ?_)
        · rw [if_pos hc6] at h
          refine ev_iconst (v := (2 : Int32)) od_26_33 (by decide) ?_
          cases h
          exact ev_iret od_26_34 rfl hP
        · rw [if_neg hc6] at h
          refine ev_iload_n od_26_28 rfl ?_
          refine ev_iconst (v := (3 : Int32)) od_26_29 (by decide) ?_
          refine ev_icmp_le (t := 35) od_26_30 (by decide) (fun hc5 => ?_) (fun hc5 => ?_)
          · rw [if_pos hc5] at h
            refine ev_aload_n od_26_35 rfl ?_
            refine ev_gf (v := .ref (a + 3)) og_26_36 (pl_O ha) (pl_v6 ha) ?_
            refine ev_aload_n od_26_39 rfl ?_
            refine ev_gf (v := .int (S a 2)) og_26_40 (pl_O ha) (pl_v2 ha) ?_
            refine ev_iload_n od_26_43 rfl ?_
            obtain ⟨bq1, h⟩ := ov_ck_ok h
            refine ev_iast od_26_44 (pl_A3 ha) (pl_i3 ha bq1) ?_
            refine ev_aload_n od_26_45 rfl ?_
            refine ev_gf (v := .ref (a + 4)) og_26_46 (pl_O ha) (pl_v7 ha) ?_
            refine ev_aload_n od_26_49 rfl ?_
            refine ev_gf (v := .int ((ov_up S (a + 3) ((S a 2)).toNatClampNeg x1) a 2)) og_26_50 (pl_O ha) (pl_v2 ha) ?_
            refine ev_iload_n od_26_53 rfl ?_
            obtain ⟨bq2, h⟩ := ov_ck_ok h
            refine ev_iast od_26_54 (pl_A4 ha) (pl_i4 ha bq2) ?_
            refine ev_aload_n od_26_55 rfl ?_
            refine ev_iload_n od_26_56 rfl ?_
            refine ev_iconst (v := (2 : Int32)) od_26_57 (by decide) ?_
            refine ev_icmp_ne (t := 75) od_26_58 (by decide) (fun hc4 => ?_) (fun hc4 => ?_)
            · rw [if_neg hc4] at h
              refine ev_aload_n od_26_75 rfl ?_
              refine ev_gf (v := .int ((ov_up (ov_up S (a + 3) ((S a 2)).toNatClampNeg x1) (a + 4) (((ov_up S (a + 3) ((S a 2)).toNatClampNeg x1) a 2)).toNatClampNeg x2) a 10)) og_26_76 (pl_O ha) (pl_v10 ha) ?_
              refine ev_fg (lv0 := [some (.ref a), none, none]) (ov_le_s (ov_le_n (ov_le_n (ov_le_e)))) ?_
              exact t26_79 ha h hP
            · rw [if_pos hc4] at h
              refine ev_aload_n od_26_61 rfl ?_
              refine ev_gf (v := .int ((ov_up (ov_up S (a + 3) ((S a 2)).toNatClampNeg x1) (a + 4) (((ov_up S (a + 3) ((S a 2)).toNatClampNeg x1) a 2)).toNatClampNeg x2) a 10)) og_26_62 (pl_O ha) (pl_v10 ha) ?_
              refine ev_aload_n od_26_65 rfl ?_
              refine ev_gf (v := .int ((ov_up (ov_up S (a + 3) ((S a 2)).toNatClampNeg x1) (a + 4) (((ov_up S (a + 3) ((S a 2)).toNatClampNeg x1) a 2)).toNatClampNeg x2) a 2)) og_26_66 (pl_O ha) (pl_v2 ha) ?_
              obtain ⟨y3, hy3, h⟩ := ov_bd h
              try dsimp only at h
              refine ev_csi (y := 27) (n := 2) (as := [.int ((ov_up (ov_up S (a + 3) ((S a 2)).toNatClampNeg x1) (a + 4) (((ov_up S (a + 3) ((S a 2)).toNatClampNeg x1) a 2)).toNatClampNeg x2) a 10), .int ((ov_up (ov_up S (a + 3) ((S a 2)).toNatClampNeg x1) (a + 4) (((ov_up S (a + 3) ((S a 2)).toNatClampNeg x1) a 2)).toNatClampNeg x2) a 2)]) (rest := [.ref a]) (dc := 1) oc_26_69 rfl rfl rfl rfl rfl (by decide) (R27  hy3) ?_
              refine ev_goto (t := 79) od_26_72 (by decide) ?_
              refine ev_fg (lv0 := [some (.ref a), none, none]) (ov_le_s (ov_le_n (ov_le_n (ov_le_e)))) ?_
              exact t26_79 ha h hP
          · rw [if_neg hc5] at h
            refine ev_iconst (v := (2 : Int32)) od_26_33 (by decide) ?_
            cases h
            exact ev_iret od_26_34 rfl hP
      · rw [if_neg hc7] at h
        refine ev_iconst (v := (1 : Int32)) od_26_22 (by decide) ?_
        cases h
        exact ev_iret od_26_23 rfl hP
  · rw [if_neg hc9] at h
    refine ev_iconst (v := (0 : Int32)) od_26_9 (by decide) ?_
    cases h
    exact ev_iret od_26_10 rfl hP
theorem R26 {L : Nat} {S : ov_S} {G : ov_L2} {a : Nat} {x1 : Int32} {x2 : Int32} (ha : ov_Pl a) {out : Int32 × ov_S} (h : f26 a S x1 x2 = some out) : ov_R L 2 26 [.ref a, .int x1, .int x2] S G (some (.int out.1)) out.2 G :=
  ov_Rof (t26 ha h ⟨rfl, rfl, rfl⟩)
