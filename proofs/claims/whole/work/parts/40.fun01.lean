-- 122 OE$Fractions.factorial
def b122_4 (x0 : Int32) (x1 : Int64) (x3 : Int32) : Option ((Int64 × Int32) ⊕ (Int64)) :=
  (if x0 < x3 then some (.inr x1) else some (.inl ((x1 * (x3).toInt64), (x3 + (1 : Int32)))))
theorem bt122_4 {L : Nat} {S : ov_S} {G : ov_L2} {x0 : Int32} {x1 : Int64} {x3 : Int32} {P : Option Value → ov_S → ov_L2 → Prop}  {out : (Int64 × Int32) ⊕ (Int64)} (h : b122_4 x0 x1 x3 = some out) (hk : ov_sm (σ := Int64 × Int32) (ε := (Int64)) (fun s => ov_J L 0 122 4 [some (.int x0), some (.long s.1), none, some (.int s.2)] [] S G P) (fun e => ov_J L 0 122 20 [none, some (.long e), none, none] [] S G P) out) : ov_J L 0 122 4 [some (.int x0), some (.long x1), none, some (.int x3)] [] S G P := by
  unfold b122_4 at h
  refine ev_iload_n od_122_4 rfl ?_
  refine ev_iload_n od_122_5 rfl ?_
  refine ev_icmp_gt (t := 20) od_122_6 (by decide) (fun hc1 => ?_) (fun hc1 => ?_)
  · rw [if_pos hc1] at h
    cases h
    refine ev_fg (lv0 := [none, some (.long x1), none, none]) (ov_le_n (ov_le_s (ov_le_n (ov_le_n (ov_le_e))))) ?_
    exact hk
  · rw [if_neg hc1] at h
    refine ev_lload_n od_122_9 rfl ?_
    refine ev_iload_n od_122_10 rfl ?_
    refine ev_i2l od_122_11 ?_
    refine ev_lmul od_122_12 ?_
    refine ev_lstore_n (lv1 := [some (.int x0), some (.long (x1 * (x3).toInt64)), none, some (.int x3)]) od_122_13 rfl rfl ?_
    refine ev_iinc (v := (x3 + (1 : Int32))) (lv1 := [some (.int x0), some (.long (x1 * (x3).toInt64)), none, some (.int (x3 + (1 : Int32)))]) od_122_14 rfl rfl rfl ?_
    refine ev_goto (t := 4) od_122_17 (by decide) ?_
    cases h
    exact hk
def f122 (x0 : Int32) : Option (Int64) :=
  ((ov_lp (fun s => b122_4 x0 s.1 s.2) 2000 ((1 : Int64), (2 : Int32))).bind fun e2 => some e2)
theorem t122 {L : Nat} {S : ov_S} {G : ov_L2} {x0 : Int32} {P : Option Value → ov_S → ov_L2 → Prop}  {out : Int64} (h : f122 x0 = some out) (hP : P (some (.long out)) S G) : ov_J L 0 122 0 [some (.int x0), none, none, none] [] S G P := by
  unfold f122 at h
  refine ev_lconst (v := (1 : Int64)) od_122_0 (by decide) ?_
  refine ev_lstore_n (lv1 := [some (.int x0), some (.long (1 : Int64)), none, none]) od_122_1 rfl rfl ?_
  refine ev_iconst (v := (2 : Int32)) od_122_2 (by decide) ?_
  refine ev_istore_n (lv1 := [some (.int x0), some (.long (1 : Int64)), none, some (.int (2 : Int32))]) od_122_3 rfl rfl ?_
  obtain ⟨e2, he2, h⟩ := ov_bd h
  try dsimp only at h
  refine ov_lp_S (body := (fun s => b122_4 x0 s.1 s.2)) (head := (fun s => ov_J L 0 122 4 [some (.int x0), some (.long s.1), none, some (.int s.2)] [] S G P)) (exit := (fun e => ov_J L 0 122 20 [none, some (.long e), none, none] [] S G P)) (fun s r hb hk => bt122_4  hb hk) 2000 ((1 : Int64), (2 : Int32)) e2 he2 ?_
  show ov_J L 0 122 20 [none, some (.long e2), none, none] [] S G P
  refine ev_lload_n od_122_20 rfl ?_
  cases h
  exact ev_lret od_122_21 rfl hP
theorem R122 {L : Nat} {S : ov_S} {G : ov_L2} {x0 : Int32}  {out : Int64} (h : f122 x0 = some out) : ov_R L 1 122 [.int x0] S G (some (.long out)) S G :=
  ov_Rof (t122  h ⟨rfl, rfl, rfl⟩)
-- 124 OE$Trod.add
def f124 (S : ov_S) (x1 : Int32) (x2 : Int32) : Option (Int32 × ov_S) :=
  (if (S 28 2) < (6 : Int32) then ov_ck (ov_ibb (S 28 2) 6) (ov_ck (ov_ibb ((ov_up S 29 ((S 28 2)).toNatClampNeg x1) 28 2) 6) (some ((1 : Int32), (ov_up (ov_up (ov_up S 29 ((S 28 2)).toNatClampNeg x1) 30 (((ov_up S 29 ((S 28 2)).toNatClampNeg x1) 28 2)).toNatClampNeg x2) 28 2 (((ov_up (ov_up S 29 ((S 28 2)).toNatClampNeg x1) 30 (((ov_up S 29 ((S 28 2)).toNatClampNeg x1) 28 2)).toNatClampNeg x2) 28 2) + (1 : Int32)))))) else some ((0 : Int32), S))
theorem t124 {L : Nat} {S : ov_S} {G : ov_L2} {x1 : Int32} {x2 : Int32} {P : Option Value → ov_S → ov_L2 → Prop}  {out : Int32 × ov_S} (h : f124 S x1 x2 = some out) (hP : P (some (.int out.1)) out.2 G) : ov_J L 0 124 0 [some (.ref 28), some (.int x1), some (.int x2)] [] S G P := by
  unfold f124 at h
  refine ev_aload_n od_124_0 rfl ?_
  refine ev_gf (v := .int (S 28 2)) og_124_1 oO_28 rfl ?_
  refine ev_bipush (v := (6 : Int32)) od_124_4 (by decide) ?_
  refine ev_icmp_lt (t := 11) od_124_6 (by decide) (fun hc3 => ?_) (fun hc3 => ?_)
  · rw [if_pos hc3] at h
    refine ev_aload_n od_124_11 rfl ?_
    refine ev_gf (v := .ref 29) og_124_12 oO_28 rfl ?_
    refine ev_aload_n od_124_15 rfl ?_
    refine ev_gf (v := .int (S 28 2)) og_124_16 oO_28 rfl ?_
    refine ev_iload_n od_124_19 rfl ?_
    obtain ⟨bq1, h⟩ := ov_ck_ok h
    refine ev_iast od_124_20 oA_29 (ov_ibk bq1) ?_
    refine ev_aload_n od_124_21 rfl ?_
    refine ev_gf (v := .ref 30) og_124_22 oO_28 rfl ?_
    refine ev_aload_n od_124_25 rfl ?_
    refine ev_gf (v := .int ((ov_up S 29 ((S 28 2)).toNatClampNeg x1) 28 2)) og_124_26 oO_28 rfl ?_
    refine ev_iload_n od_124_29 rfl ?_
    obtain ⟨bq2, h⟩ := ov_ck_ok h
    refine ev_iast od_124_30 oA_30 (ov_ibk bq2) ?_
    refine ev_aload_n od_124_31 rfl ?_
    refine ev_dup od_124_32 rfl ?_
    refine ev_gf (v := .int ((ov_up (ov_up S 29 ((S 28 2)).toNatClampNeg x1) 30 (((ov_up S 29 ((S 28 2)).toNatClampNeg x1) 28 2)).toNatClampNeg x2) 28 2)) og_124_33 oO_28 rfl ?_
    refine ev_iconst (v := (1 : Int32)) od_124_36 (by decide) ?_
    refine ev_iadd od_124_37 ?_
    refine ev_pf op_124_38 oO_28 rfl rfl ?_
    refine ev_iconst (v := (1 : Int32)) od_124_41 (by decide) ?_
    cases h
    exact ev_zret od_124_42 rfl (by decide) hP
  · rw [if_neg hc3] at h
    refine ev_iconst (v := (0 : Int32)) od_124_9 (by decide) ?_
    cases h
    exact ev_zret od_124_10 rfl (by decide) hP
theorem R124 {L : Nat} {S : ov_S} {G : ov_L2} {x1 : Int32} {x2 : Int32}  {out : Int32 × ov_S} (h : f124 S x1 x2 = some out) : ov_R L 1 124 [.ref 28, .int x1, .int x2] S G (some (.int out.1)) out.2 G :=
  ov_Rof (t124  h ⟨rfl, rfl, rfl⟩)
-- 126 OE$Trod.forget
def f126 (S : ov_S) : Option (ov_S) :=
  some (ov_up S 28 2 (0 : Int32))
theorem t126 {L : Nat} {S : ov_S} {G : ov_L2}  {P : Option Value → ov_S → ov_L2 → Prop}  {out : ov_S} (h : f126 S = some out) (hP : P none out G) : ov_J L 0 126 0 [some (.ref 28)] [] S G P := by
  unfold f126 at h
  refine ev_aload_n od_126_0 rfl ?_
  refine ev_iconst (v := (0 : Int32)) od_126_1 (by decide) ?_
  refine ev_pf op_126_2 oO_28 rfl rfl ?_
  cases h
  exact ev_vret od_126_5 rfl hP
theorem R126 {L : Nat} {S : ov_S} {G : ov_L2}   {out : ov_S} (h : f126 S = some out) : ov_R L 1 126 [.ref 28] S G none out G :=
  ov_Rof (t126  h ⟨rfl, rfl, rfl⟩)
-- 132 OE$Rests.worth
def f132 (x0 : Int32) (x1 : Int32) : Option (Int32) :=
  (if x0 = (-9 : Int32) then some (0 : Int32) else (if x1 = 0 then some (1 : Int32) else some ((9 : Int32) - x0)))
theorem t132 {L : Nat} {S : ov_S} {G : ov_L2} {x0 : Int32} {x1 : Int32} {P : Option Value → ov_S → ov_L2 → Prop}  {out : Int32} (h : f132 x0 x1 = some out) (hP : P (some (.int out)) S G) : ov_J L 0 132 0 [some (.int x0), some (.int x1)] [] S G P := by
  unfold f132 at h
  refine ev_iload_n od_132_0 rfl ?_
  refine ev_bipush (v := (-9 : Int32)) od_132_1 (by decide) ?_
  refine ev_icmp_ne (t := 8) od_132_3 (by decide) (fun hc2 => ?_) (fun hc2 => ?_)
  · rw [if_neg hc2] at h
    refine ev_iload_n od_132_8 rfl ?_
    refine ev_if_eq (t := 19) od_132_9 (by decide) (fun hc1 => ?_) (fun hc1 => ?_)
    · rw [if_pos hc1] at h
      refine ev_iconst (v := (1 : Int32)) od_132_19 (by decide) ?_
      cases h
      exact ev_iret od_132_20 rfl hP
    · rw [if_neg hc1] at h
      refine ev_bipush (v := (9 : Int32)) od_132_12 (by decide) ?_
      refine ev_iload_n od_132_14 rfl ?_
      refine ev_isub od_132_15 ?_
      refine ev_goto (t := 20) od_132_16 (by decide) ?_
      cases h
      exact ev_iret od_132_20 rfl hP
  · rw [if_pos hc2] at h
    refine ev_iconst (v := (0 : Int32)) od_132_6 (by decide) ?_
    cases h
    exact ev_iret od_132_7 rfl hP
theorem R132 {L : Nat} {S : ov_S} {G : ov_L2} {x0 : Int32} {x1 : Int32}  {out : Int32} (h : f132 x0 x1 = some out) : ov_R L 1 132 [.int x0, .int x1] S G (some (.int out)) S G :=
  ov_Rof (t132  h ⟨rfl, rfl, rfl⟩)
-- 133 OE$Rests.isRest
def f133_73_9 (S : ov_S) (x1 : Int32) (x2 : Int32) (x3 : Int32) (x4 : Int32) (x5 : Int32) (s0 : Int32) : Option ((Int32) ⊕ ((Unit) ⊕ (Int32))) :=
  (if x5 = 0 then (if s0 = 0 then some (.inl (x4 + (1 : Int32))) else some (.inr (.inr (0 : Int32)))) else some (.inr (.inr (0 : Int32))))
theorem t133_73_9 {L : Nat} {S : ov_S} {G : ov_L2} {x1 : Int32} {x2 : Int32} {x3 : Int32} {x4 : Int32} {x5 : Int32} {s0 : Int32} {P : Option Value → ov_S → ov_L2 → Prop}  {out : (Int32) ⊕ ((Unit) ⊕ (Int32))} (h : f133_73_9 S x1 x2 x3 x4 x5 s0 = some out) (hk : ov_sm (σ := Int32) (ε := ((Unit) ⊕ (Int32))) (fun s => ov_J L 0 133 9 [some (.ref 32), some (.int x1), some (.int x2), some (.int x3), some (.int s), none, none] [] S G P) (ov_sm (fun e => ov_J L 0 133 93 [none, none, none, none, none, none, none] [] S G P) (fun t => P (some (.int t)) S G)) out) : ov_J L 0 133 73 [some (.ref 32), some (.int x1), some (.int x2), some (.int x3), some (.int x4), some (.int x5), none] [.int s0] S G P := by
  unfold f133_73_9 at h
  refine ev_istore (lv1 := [some (.ref 32), some (.int x1), some (.int x2), some (.int x3), some (.int x4), some (.int x5), some (.int s0)]) od_133_73 rfl rfl ?_
  refine ev_iload od_133_75 rfl ?_
  refine ev_if_ne (t := 85) od_133_77 (by decide) (fun hc6 => ?_) (fun hc6 => ?_)
  · rw [if_neg hc6] at h
    refine ev_iconst (v := (0 : Int32)) od_133_85 (by decide) ?_
    cases h
    exact ev_zret od_133_86 rfl (by decide) hk
  · rw [if_pos hc6] at h
    refine ev_iload od_133_80 rfl ?_
    refine ev_if_eq (t := 87) od_133_82 (by decide) (fun hc5 => ?_) (fun hc5 => ?_)
    · rw [if_pos hc5] at h
      refine ev_iinc (v := (x4 + (1 : Int32))) (lv1 := [some (.ref 32), some (.int x1), some (.int x2), some (.int x3), some (.int (x4 + (1 : Int32))), some (.int x5), some (.int s0)]) od_133_87 rfl rfl rfl ?_
      refine ev_goto (t := 9) od_133_90 (by decide) ?_
      cases h
      refine ev_fg (lv0 := [some (.ref 32), some (.int x1), some (.int x2), some (.int x3), some (.int (x4 + (1 : Int32))), none, none]) (ov_le_s (ov_le_s (ov_le_s (ov_le_s (ov_le_s (ov_le_n (ov_le_n (ov_le_e)))))))) ?_
      exact hk
    · rw [if_neg hc5] at h
      refine ev_iconst (v := (0 : Int32)) od_133_85 (by decide) ?_
      cases h
      exact ev_zret od_133_86 rfl (by decide) hk
def f133_46_9 (S : ov_S) (x1 : Int32) (x2 : Int32) (x3 : Int32) (x4 : Int32) (s0 : Int32) : Option ((Int32) ⊕ ((Unit) ⊕ (Int32))) :=
  ov_ck (ov_ibb (((3 : Int32) * x1) + x4) 9) (ov_ck (ov_ibb x3 9) ((if (S 34 ((((3 : Int32) * x1) + x4)).toNatClampNeg) ≤ (S 34 (x3).toNatClampNeg) then f133_73_9 S x1 x2 x3 x4 s0 (0 : Int32) else f133_73_9 S x1 x2 x3 x4 s0 (1 : Int32))))
theorem t133_46_9 {L : Nat} {S : ov_S} {G : ov_L2} {x1 : Int32} {x2 : Int32} {x3 : Int32} {x4 : Int32} {s0 : Int32} {P : Option Value → ov_S → ov_L2 → Prop}  {out : (Int32) ⊕ ((Unit) ⊕ (Int32))} (h : f133_46_9 S x1 x2 x3 x4 s0 = some out) (hk : ov_sm (σ := Int32) (ε := ((Unit) ⊕ (Int32))) (fun s => ov_J L 0 133 9 [some (.ref 32), some (.int x1), some (.int x2), some (.int x3), some (.int s), none, none] [] S G P) (ov_sm (fun e => ov_J L 0 133 93 [none, none, none, none, none, none, none] [] S G P) (fun t => P (some (.int t)) S G)) out) : ov_J L 0 133 46 [some (.ref 32), some (.int x1), some (.int x2), some (.int x3), some (.int x4), none, none] [.int s0] S G P := by
  unfold f133_46_9 at h
  refine ev_istore (lv1 := [some (.ref 32), some (.int x1), some (.int x2), some (.int x3), some (.int x4), some (.int s0), none]) od_133_46 rfl rfl ?_
  refine ev_aload_n od_133_48 rfl ?_
  refine ev_gf (v := .ref 34) og_133_49 oO_32 rfl ?_
  refine ev_iconst (v := (3 : Int32)) od_133_52 (by decide) ?_
  refine ev_iload_n od_133_53 rfl ?_
  refine ev_imul od_133_54 ?_
  refine ev_iload od_133_55 rfl ?_
  refine ev_iadd od_133_57 ?_
  obtain ⟨bq3, h⟩ := ov_ck_ok h
  refine ev_iald od_133_58 oA_34 (ov_ibk bq3) ?_
  refine ev_aload_n od_133_59 rfl ?_
  refine ev_gf (v := .ref 34) og_133_60 oO_32 rfl ?_
  refine ev_iload_n od_133_63 rfl ?_
  obtain ⟨bq4, h⟩ := ov_ck_ok h
  refine ev_iald od_133_64 oA_34 (ov_ibk bq4) ?_
  refine ev_icmp_le (t := 72) od_133_65 (by decide) (fun hc7 => ?_) (fun hc7 => ?_)
  · rw [if_pos hc7] at h
    refine ev_iconst (v := (0 : Int32)) od_133_72 (by decide) ?_
    exact t133_73_9  h hk
  · rw [if_neg hc7] at h
    refine ev_iconst (v := (1 : Int32)) od_133_68 (by decide) ?_
    refine ev_goto (t := 73) od_133_69 (by decide) ?_
    exact t133_73_9  h hk
def b133_9 (S : ov_S) (x1 : Int32) (x2 : Int32) (x3 : Int32) (x4 : Int32) : Option ((Int32) ⊕ ((Unit) ⊕ (Int32))) :=
  (if (S 4 0) ≤ x4 then some (.inr (.inl ())) else ov_ck (ov_ibb (((3 : Int32) * x4) + x2) 9) (ov_ck (ov_ibb x3 9) ((if (S 33 ((((3 : Int32) * x4) + x2)).toNatClampNeg) ≤ (S 33 (x3).toNatClampNeg) then f133_46_9 S x1 x2 x3 x4 (0 : Int32) else f133_46_9 S x1 x2 x3 x4 (1 : Int32)))))
theorem bt133_9 {L : Nat} {S : ov_S} {G : ov_L2} {x1 : Int32} {x2 : Int32} {x3 : Int32} {x4 : Int32} {P : Option Value → ov_S → ov_L2 → Prop}  {out : (Int32) ⊕ ((Unit) ⊕ (Int32))} (h : b133_9 S x1 x2 x3 x4 = some out) (hk : ov_sm (σ := Int32) (ε := ((Unit) ⊕ (Int32))) (fun s => ov_J L 0 133 9 [some (.ref 32), some (.int x1), some (.int x2), some (.int x3), some (.int s), none, none] [] S G P) (ov_sm (fun e => ov_J L 0 133 93 [none, none, none, none, none, none, none] [] S G P) (fun t => P (some (.int t)) S G)) out) : ov_J L 0 133 9 [some (.ref 32), some (.int x1), some (.int x2), some (.int x3), some (.int x4), none, none] [] S G P := by
  unfold b133_9 at h
  refine ev_iload od_133_9 rfl ?_
  refine ev_aload_n od_133_11 rfl ?_
  refine ev_gf (v := .ref 4) og_133_12 oO_32 rfl ?_
  refine ev_gf (v := .int (S 4 0)) og_133_15 oO_4 rfl ?_
  refine ev_icmp_ge (t := 93) od_133_18 (by decide) (fun hc9 => ?_) (fun hc9 => ?_)
  · rw [if_pos hc9] at h
    cases h
    refine ev_fg (lv0 := [none, none, none, none, none, none, none]) (ov_le_n (ov_le_n (ov_le_n (ov_le_n (ov_le_n (ov_le_n (ov_le_n (ov_le_e)))))))) ?_
    exact hk
  · rw [if_neg hc9] at h
    refine ev_aload_n od_133_21 rfl ?_
    refine ev_gf (v := .ref 33) og_133_22 oO_32 rfl ?_
    refine ev_iconst (v := (3 : Int32)) od_133_25 (by decide) ?_
    refine ev_iload od_133_26 rfl ?_
    refine ev_imul od_133_28 ?_
    refine ev_iload_n od_133_29 rfl ?_
    refine ev_iadd od_133_30 ?_
    obtain ⟨bq1, h⟩ := ov_ck_ok h
    refine ev_iald od_133_31 oA_33 (ov_ibk bq1) ?_
    refine ev_aload_n od_133_32 rfl ?_
    refine ev_gf (v := .ref 33) og_133_33 oO_32 rfl ?_
    refine ev_iload_n od_133_36 rfl ?_
    obtain ⟨bq2, h⟩ := ov_ck_ok h
    refine ev_iald od_133_37 oA_33 (ov_ibk bq2) ?_
    refine ev_icmp_le (t := 45) od_133_38 (by decide) (fun hc8 => ?_) (fun hc8 => ?_)
    · rw [if_pos hc8] at h
      refine ev_iconst (v := (0 : Int32)) od_133_45 (by decide) ?_
      exact t133_46_9  h hk
    · rw [if_neg hc8] at h
      refine ev_iconst (v := (1 : Int32)) od_133_41 (by decide) ?_
      refine ev_goto (t := 46) od_133_42 (by decide) ?_
      exact t133_46_9  h hk
def f133 (S : ov_S) (x1 : Int32) (x2 : Int32) : Option (Int32) :=
  ((ov_lp (fun s => b133_9 S x1 x2 (((3 : Int32) * x1) + x2) s) 2000 (0 : Int32)).bind fun e10 => match e10 with | .inl e11 => some (1 : Int32) | .inr t => some t)
theorem t133 {L : Nat} {S : ov_S} {G : ov_L2} {x1 : Int32} {x2 : Int32} {P : Option Value → ov_S → ov_L2 → Prop}  {out : Int32} (h : f133 S x1 x2 = some out) (hP : P (some (.int out)) S G) : ov_J L 0 133 0 [some (.ref 32), some (.int x1), some (.int x2), none, none, none, none] [] S G P := by
  unfold f133 at h
  refine ev_iconst (v := (3 : Int32)) od_133_0 (by decide) ?_
  refine ev_iload_n od_133_1 rfl ?_
  refine ev_imul od_133_2 ?_
  refine ev_iload_n od_133_3 rfl ?_
  refine ev_iadd od_133_4 ?_
  refine ev_istore_n (lv1 := [some (.ref 32), some (.int x1), some (.int x2), some (.int (((3 : Int32) * x1) + x2)), none, none, none]) od_133_5 rfl rfl ?_
  refine ev_iconst (v := (0 : Int32)) od_133_6 (by decide) ?_
  refine ev_istore (lv1 := [some (.ref 32), some (.int x1), some (.int x2), some (.int (((3 : Int32) * x1) + x2)), some (.int (0 : Int32)), none, none]) od_133_7 rfl rfl ?_
  obtain ⟨e10, he10, h⟩ := ov_bd h
  try dsimp only at h
  refine ov_lp_S (body := (fun s => b133_9 S x1 x2 (((3 : Int32) * x1) + x2) s)) (head := (fun s => ov_J L 0 133 9 [some (.ref 32), some (.int x1), some (.int x2), some (.int (((3 : Int32) * x1) + x2)), some (.int s), none, none] [] S G P)) (exit := (ov_sm (fun e => ov_J L 0 133 93 [none, none, none, none, none, none, none] [] S G P) (fun t => P (some (.int t)) S G))) (fun s r hb hk => bt133_9  hb hk) 2000 (0 : Int32) e10 he10 ?_
  rcases e10 with e11 | t
  · try dsimp only at h
    show ov_J L 0 133 93 [none, none, none, none, none, none, none] [] S G P
    refine ev_iconst (v := (1 : Int32)) od_133_93 (by decide) ?_
    cases h
    exact ev_zret od_133_94 rfl (by decide) hP
  · cases h
    exact hP
theorem R133 {L : Nat} {S : ov_S} {G : ov_L2} {x1 : Int32} {x2 : Int32}  {out : Int32} (h : f133 S x1 x2 = some out) : ov_R L 1 133 [.ref 32, .int x1, .int x2] S G (some (.int out)) S G :=
  ov_Rof (t133  h ⟨rfl, rfl, rfl⟩)
-- 134 OE$Rests.count
def f134 (S : ov_S) : Option (Int32) :=
  some (S 32 5)
theorem t134 {L : Nat} {S : ov_S} {G : ov_L2}  {P : Option Value → ov_S → ov_L2 → Prop}  {out : Int32} (h : f134 S = some out) (hP : P (some (.int out)) S G) : ov_J L 0 134 0 [some (.ref 32)] [] S G P := by
  unfold f134 at h
  refine ev_aload_n od_134_0 rfl ?_
  refine ev_gf (v := .int (S 32 5)) og_134_1 oO_32 rfl ?_
  cases h
  exact ev_iret od_134_4 rfl hP
theorem R134 {L : Nat} {S : ov_S} {G : ov_L2}   {out : Int32} (h : f134 S = some out) : ov_R L 1 134 [.ref 32] S G (some (.int out)) S G :=
  ov_Rof (t134  h ⟨rfl, rfl, rfl⟩)
-- 135 OE$Rests.first
def f135 (S : ov_S) : Option (Int32) :=
  some (S 32 6)
theorem t135 {L : Nat} {S : ov_S} {G : ov_L2}  {P : Option Value → ov_S → ov_L2 → Prop}  {out : Int32} (h : f135 S = some out) (hP : P (some (.int out)) S G) : ov_J L 0 135 0 [some (.ref 32)] [] S G P := by
  unfold f135 at h
  refine ev_aload_n od_135_0 rfl ?_
  refine ev_gf (v := .int (S 32 6)) og_135_1 oO_32 rfl ?_
  cases h
  exact ev_iret od_135_4 rfl hP
theorem R135 {L : Nat} {S : ov_S} {G : ov_L2}   {out : Int32} (h : f135 S = some out) : ov_R L 1 135 [.ref 32] S G (some (.int out)) S G :=
  ov_Rof (t135  h ⟨rfl, rfl, rfl⟩)
-- 137 OE$Fractions.choices
def b137_5 (x0 : Int32) (x1 : Int32) (x2 : Int64) (x4 : Int32) : Option ((Int64 × Int32) ⊕ (Int64)) :=
  (if x1 ≤ x4 then some (.inr x2) else ov_ck (ov_nzl ((x4 + (1 : Int32))).toInt64) (some (.inl (((x2 * ((x0 - x4)).toInt64) / ((x4 + (1 : Int32))).toInt64), (x4 + (1 : Int32))))))
theorem bt137_5 {L : Nat} {S : ov_S} {G : ov_L2} {x0 : Int32} {x1 : Int32} {x2 : Int64} {x4 : Int32} {P : Option Value → ov_S → ov_L2 → Prop}  {out : (Int64 × Int32) ⊕ (Int64)} (h : b137_5 x0 x1 x2 x4 = some out) (hk : ov_sm (σ := Int64 × Int32) (ε := (Int64)) (fun s => ov_J L 0 137 5 [some (.int x0), some (.int x1), some (.long s.1), none, some (.int s.2)] [] S G P) (fun e => ov_J L 0 137 31 [none, none, some (.long e), none, none] [] S G P) out) : ov_J L 0 137 5 [some (.int x0), some (.int x1), some (.long x2), none, some (.int x4)] [] S G P := by
  unfold b137_5 at h
  refine ev_iload od_137_5 rfl ?_
  refine ev_iload_n od_137_7 rfl ?_
  refine ev_icmp_ge (t := 31) od_137_8 (by decide) (fun hc2 => ?_) (fun hc2 => ?_)
  · rw [if_pos hc2] at h
    cases h
    refine ev_fg (lv0 := [none, none, some (.long x2), none, none]) (ov_le_n (ov_le_n (ov_le_s (ov_le_n (ov_le_n (ov_le_e)))))) ?_
    exact hk
  · rw [if_neg hc2] at h
    refine ev_lload_n od_137_11 rfl ?_
    refine ev_iload_n od_137_12 rfl ?_
    refine ev_iload od_137_13 rfl ?_
    refine ev_isub od_137_15 ?_
    refine ev_i2l od_137_16 ?_
    refine ev_lmul od_137_17 ?_
    refine ev_iload od_137_18 rfl ?_
    refine ev_iconst (v := (1 : Int32)) od_137_20 (by decide) ?_
    refine ev_iadd od_137_21 ?_
    refine ev_i2l od_137_22 ?_
    obtain ⟨bq1, h⟩ := ov_ck_ok h
    refine ev_ldiv od_137_23 (ov_nzlk bq1) ?_
    refine ev_lstore_n (lv1 := [some (.int x0), some (.int x1), some (.long ((x2 * ((x0 - x4)).toInt64) / ((x4 + (1 : Int32))).toInt64)), none, some (.int x4)]) od_137_24 rfl rfl ?_
    refine ev_iinc (v := (x4 + (1 : Int32))) (lv1 := [some (.int x0), some (.int x1), some (.long ((x2 * ((x0 - x4)).toInt64) / ((x4 + (1 : Int32))).toInt64)), none, some (.int (x4 + (1 : Int32)))]) od_137_25 rfl rfl rfl ?_
    refine ev_goto (t := 5) od_137_28 (by decide) ?_
    cases h
    exact hk
def f137 (x0 : Int32) (x1 : Int32) : Option (Int64) :=
  ((ov_lp (fun s => b137_5 x0 x1 s.1 s.2) 2000 ((1 : Int64), (0 : Int32))).bind fun e3 => some e3)
theorem t137 {L : Nat} {S : ov_S} {G : ov_L2} {x0 : Int32} {x1 : Int32} {P : Option Value → ov_S → ov_L2 → Prop}  {out : Int64} (h : f137 x0 x1 = some out) (hP : P (some (.long out)) S G) : ov_J L 0 137 0 [some (.int x0), some (.int x1), none, none, none] [] S G P := by
  unfold f137 at h
  refine ev_lconst (v := (1 : Int64)) od_137_0 (by decide) ?_
  refine ev_lstore_n (lv1 := [some (.int x0), some (.int x1), some (.long (1 : Int64)), none, none]) od_137_1 rfl rfl ?_
  refine ev_iconst (v := (0 : Int32)) od_137_2 (by decide) ?_
  refine ev_istore (lv1 := [some (.int x0), some (.int x1), some (.long (1 : Int64)), none, some (.int (0 : Int32))]) od_137_3 rfl rfl ?_
  obtain ⟨e3, he3, h⟩ := ov_bd h
  try dsimp only at h
  refine ov_lp_S (body := (fun s => b137_5 x0 x1 s.1 s.2)) (head := (fun s => ov_J L 0 137 5 [some (.int x0), some (.int x1), some (.long s.1), none, some (.int s.2)] [] S G P)) (exit := (fun e => ov_J L 0 137 31 [none, none, some (.long e), none, none] [] S G P)) (fun s r hb hk => bt137_5  hb hk) 2000 ((1 : Int64), (0 : Int32)) e3 he3 ?_
  show ov_J L 0 137 31 [none, none, some (.long e3), none, none] [] S G P
  refine ev_lload_n od_137_31 rfl ?_
  cases h
  exact ev_lret od_137_32 rfl hP
theorem R137 {L : Nat} {S : ov_S} {G : ov_L2} {x0 : Int32} {x1 : Int32}  {out : Int64} (h : f137 x0 x1 = some out) : ov_R L 1 137 [.int x0, .int x1] S G (some (.long out)) S G :=
  ov_Rof (t137  h ⟨rfl, rfl, rfl⟩)
-- 138 OE.seed
def f138 (S : ov_S) (G : ov_L2) (x1 : Int64) : Option (Int64 × ov_S × ov_L2) :=
  some ((G 1), S, (ov_ug G 1 x1))
theorem t138 {L : Nat} {S : ov_S} {G : ov_L2} {x1 : Int64} {P : Option Value → ov_S → ov_L2 → Prop}  {out : Int64 × ov_S × ov_L2} (h : f138 S G x1 = some out) (hP : P (some (.long out.1)) out.2.1 out.2.2) : ov_J L 0 138 0 [some (.ref 1), some (.long x1), none, none, none] [] S G P := by
  unfold f138 at h
  refine ev_aload_n od_138_0 rfl ?_
  refine ev_gf (v := .long (G 1)) og_138_1 oO_1 rfl ?_
  refine ev_lstore_n (lv1 := [some (.ref 1), some (.long x1), none, some (.long (G 1)), none]) od_138_4 rfl rfl ?_
  refine ev_aload_n od_138_5 rfl ?_
  refine ev_lload_n od_138_6 rfl ?_
  refine ev_pfl op_138_7 oO_1 rfl oG_1 rfl ?_
  refine ev_lload_n od_138_10 rfl ?_
  cases h
  exact ev_lret od_138_11 rfl hP
theorem R138 {L : Nat} {S : ov_S} {G : ov_L2} {x1 : Int64}  {out : Int64 × ov_S × ov_L2} (h : f138 S G x1 = some out) : ov_R L 1 138 [.ref 1, .long x1] S G (some (.long out.1)) out.2.1 out.2.2 :=
  ov_Rof (t138  h ⟨rfl, rfl, rfl⟩)
-- 144 OEModel.in
def f144 (x0 : Int64) (x2 : Int64) (x4 : Int64) : Option (Int32) :=
  (if (lg_cmp x0 x2) < 0 then some (0 : Int32) else (if 0 < (lg_cmp x0 x4) then some (0 : Int32) else some (1 : Int32)))
theorem t144 {L : Nat} {S : ov_S} {G : ov_L2} {x0 : Int64} {x2 : Int64} {x4 : Int64} {P : Option Value → ov_S → ov_L2 → Prop}  {out : Int32} (h : f144 x0 x2 x4 = some out) (hP : P (some (.int out)) S G) : ov_J L 0 144 0 [some (.long x0), none, some (.long x2), none, some (.long x4), none] [] S G P := by
  unfold f144 at h
  refine ev_lload_n od_144_0 rfl ?_
  refine ev_lload_n od_144_1 rfl ?_
  refine ev_lcmp od_144_2 ?_
  refine ev_if_lt (t := 17) od_144_3 (by decide) (fun hc2 => ?_) (fun hc2 => ?_)
  · rw [if_pos hc2] at h
    refine ev_iconst (v := (0 : Int32)) od_144_17 (by decide) ?_
    cases h
    exact ev_zret od_144_18 rfl (by decide) hP
  · rw [if_neg hc2] at h
    refine ev_lload_n od_144_6 rfl ?_
    refine ev_lload od_144_7 rfl ?_
    refine ev_lcmp od_144_9 ?_
    refine ev_if_gt (t := 17) od_144_10 (by decide) (fun hc1 => ?_) (fun hc1 => ?_)
    · rw [if_pos hc1] at h
      refine ev_iconst (v := (0 : Int32)) od_144_17 (by decide) ?_
      cases h
      exact ev_zret od_144_18 rfl (by decide) hP
    · rw [if_neg hc1] at h
      refine ev_iconst (v := (1 : Int32)) od_144_13 (by decide) ?_
      refine ev_goto (t := 18) od_144_14 (by decide) ?_
      cases h
      exact ev_zret od_144_18 rfl (by decide) hP
theorem R144 {L : Nat} {S : ov_S} {G : ov_L2} {x0 : Int64} {x2 : Int64} {x4 : Int64}  {out : Int32} (h : f144 x0 x2 x4 = some out) : ov_R L 1 144 [.long x0, .long x2, .long x4] S G (some (.int out)) S G :=
  ov_Rof (t144  h ⟨rfl, rfl, rfl⟩)
-- 145 OEModel.wipe
def f145 (S : ov_S) : Option (Int32 × ov_S) :=
  some (((ov_up S 42 0 (0 : Int32)) 42 2), (ov_up (ov_up S 42 0 (0 : Int32)) 42 2 (0 : Int32)))
theorem t145 {L : Nat} {S : ov_S} {G : ov_L2}  {P : Option Value → ov_S → ov_L2 → Prop}  {out : Int32 × ov_S} (h : f145 S = some out) (hP : P (some (.int out.1)) out.2 G) : ov_J L 0 145 0 [some (.ref 42), none] [] S G P := by
  unfold f145 at h
  refine ev_aload_n od_145_0 rfl ?_
  refine ev_iconst (v := (0 : Int32)) od_145_1 (by decide) ?_
  refine ev_pf op_145_2 oO_42 rfl rfl ?_
  refine ev_aload_n od_145_5 rfl ?_
  refine ev_gf (v := .int ((ov_up S 42 0 (0 : Int32)) 42 2)) og_145_6 oO_42 rfl ?_
  refine ev_istore_n (lv1 := [some (.ref 42), some (.int ((ov_up S 42 0 (0 : Int32)) 42 2))]) od_145_9 rfl rfl ?_
  refine ev_aload_n od_145_10 rfl ?_
  refine ev_iconst (v := (0 : Int32)) od_145_11 (by decide) ?_
  refine ev_pf op_145_12 oO_42 rfl rfl ?_
  refine ev_iload_n od_145_15 rfl ?_
  cases h
  exact ev_iret od_145_16 rfl hP
theorem R145 {L : Nat} {S : ov_S} {G : ov_L2}   {out : Int32 × ov_S} (h : f145 S = some out) : ov_R L 1 145 [.ref 42] S G (some (.int out.1)) out.2 G :=
  ov_Rof (t145  h ⟨rfl, rfl, rfl⟩)
-- 149 OEModel.readTaken
def b149_4 (S : ov_S) (x1 : Int32) (x2 : Int32) : Option ((Int32 × Int32) ⊕ (Int32)) :=
  (if (S 42 13) ≤ x2 then some (.inr x1) else ov_ck (ov_ibb x2 3) (some (.inl ((x1 ||| ((1 : Int32) <<< ((S 49 (x2).toNatClampNeg) &&& 31))), (x2 + (1 : Int32))))))
theorem bt149_4 {L : Nat} {S : ov_S} {G : ov_L2} {x1 : Int32} {x2 : Int32} {P : Option Value → ov_S → ov_L2 → Prop}  {out : (Int32 × Int32) ⊕ (Int32)} (h : b149_4 S x1 x2 = some out) (hk : ov_sm (σ := Int32 × Int32) (ε := (Int32)) (fun s => ov_J L 0 149 4 [some (.ref 42), some (.int s.1), some (.int s.2)] [] S G P) (fun e => ov_J L 0 149 29 [some (.ref 42), some (.int e), none] [] S G P) out) : ov_J L 0 149 4 [some (.ref 42), some (.int x1), some (.int x2)] [] S G P := by
  unfold b149_4 at h
  refine ev_iload_n od_149_4 rfl ?_
  refine ev_aload_n od_149_5 rfl ?_
  refine ev_gf (v := .int (S 42 13)) og_149_6 oO_42 rfl ?_
  refine ev_icmp_ge (t := 29) od_149_9 (by decide) (fun hc2 => ?_) (fun hc2 => ?_)
  · rw [if_pos hc2] at h
    cases h
    refine ev_fg (lv0 := [some (.ref 42), some (.int x1), none]) (ov_le_s (ov_le_s (ov_le_n (ov_le_e)))) ?_
    exact hk
  · rw [if_neg hc2] at h
    refine ev_iload_n od_149_12 rfl ?_
    refine ev_iconst (v := (1 : Int32)) od_149_13 (by decide) ?_
    refine ev_aload_n od_149_14 rfl ?_
    refine ev_gf (v := .ref 49) og_149_15 oO_42 rfl ?_
    refine ev_iload_n od_149_18 rfl ?_
    obtain ⟨bq1, h⟩ := ov_ck_ok h
    refine ev_iald od_149_19 oA_49 (ov_ibk bq1) ?_
    refine ev_ishl od_149_20 ?_
    refine ev_ior od_149_21 ?_
    refine ev_istore_n (lv1 := [some (.ref 42), some (.int (x1 ||| ((1 : Int32) <<< ((S 49 (x2).toNatClampNeg) &&& 31)))), some (.int x2)]) od_149_22 rfl rfl ?_
    refine ev_iinc (v := (x2 + (1 : Int32))) (lv1 := [some (.ref 42), some (.int (x1 ||| ((1 : Int32) <<< ((S 49 (x2).toNatClampNeg) &&& 31)))), some (.int (x2 + (1 : Int32)))]) od_149_23 rfl rfl rfl ?_
    refine ev_goto (t := 4) od_149_26 (by decide) ?_
    cases h
    exact hk
def b149_31 (S : ov_S) (x1 : Int32) (x2 : Int32) : Option ((Int32 × Int32) ⊕ (Int32)) :=
  (if (S 42 15) ≤ x2 then some (.inr x1) else ov_ck (ov_ibb x2 4) (some (.inl ((x1 ||| ((1 : Int32) <<< ((S 50 (x2).toNatClampNeg) &&& 31))), (x2 + (1 : Int32))))))
theorem bt149_31 {L : Nat} {S : ov_S} {G : ov_L2} {x1 : Int32} {x2 : Int32} {P : Option Value → ov_S → ov_L2 → Prop}  {out : (Int32 × Int32) ⊕ (Int32)} (h : b149_31 S x1 x2 = some out) (hk : ov_sm (σ := Int32 × Int32) (ε := (Int32)) (fun s => ov_J L 0 149 31 [some (.ref 42), some (.int s.1), some (.int s.2)] [] S G P) (fun e => ov_J L 0 149 56 [none, some (.int e), none] [] S G P) out) : ov_J L 0 149 31 [some (.ref 42), some (.int x1), some (.int x2)] [] S G P := by
  unfold b149_31 at h
  refine ev_iload_n od_149_31 rfl ?_
  refine ev_aload_n od_149_32 rfl ?_
  refine ev_gf (v := .int (S 42 15)) og_149_33 oO_42 rfl ?_
  refine ev_icmp_ge (t := 56) od_149_36 (by decide) (fun hc5 => ?_) (fun hc5 => ?_)
  · rw [if_pos hc5] at h
    cases h
    refine ev_fg (lv0 := [none, some (.int x1), none]) (ov_le_n (ov_le_s (ov_le_n (ov_le_e)))) ?_
    exact hk
  · rw [if_neg hc5] at h
    refine ev_iload_n od_149_39 rfl ?_
    refine ev_iconst (v := (1 : Int32)) od_149_40 (by decide) ?_
    refine ev_aload_n od_149_41 rfl ?_
    refine ev_gf (v := .ref 50) og_149_42 oO_42 rfl ?_
    refine ev_iload_n od_149_45 rfl ?_
    obtain ⟨bq4, h⟩ := ov_ck_ok h
    refine ev_iald od_149_46 oA_50 (ov_ibk bq4) ?_
    refine ev_ishl od_149_47 ?_
    refine ev_ior od_149_48 ?_
    refine ev_istore_n (lv1 := [some (.ref 42), some (.int (x1 ||| ((1 : Int32) <<< ((S 50 (x2).toNatClampNeg) &&& 31)))), some (.int x2)]) od_149_49 rfl rfl ?_
    refine ev_iinc (v := (x2 + (1 : Int32))) (lv1 := [some (.ref 42), some (.int (x1 ||| ((1 : Int32) <<< ((S 50 (x2).toNatClampNeg) &&& 31)))), some (.int (x2 + (1 : Int32)))]) od_149_50 rfl rfl rfl ?_
    refine ev_goto (t := 31) od_149_53 (by decide) ?_
    cases h
    exact hk
def f149 (S : ov_S) : Option (Int32) :=
  ((ov_lp (fun s => b149_4 S s.1 s.2) 2000 ((0 : Int32), (0 : Int32))).bind fun e3 => ((ov_lp (fun s => b149_31 S s.1 s.2) 2000 (e3, (0 : Int32))).bind fun e6 => some e6))
theorem t149 {L : Nat} {S : ov_S} {G : ov_L2}  {P : Option Value → ov_S → ov_L2 → Prop}  {out : Int32} (h : f149 S = some out) (hP : P (some (.int out)) S G) : ov_J L 0 149 0 [some (.ref 42), none, none] [] S G P := by
  unfold f149 at h
  refine ev_iconst (v := (0 : Int32)) od_149_0 (by decide) ?_
  refine ev_istore_n (lv1 := [some (.ref 42), some (.int (0 : Int32)), none]) od_149_1 rfl rfl ?_
  refine ev_iconst (v := (0 : Int32)) od_149_2 (by decide) ?_
  refine ev_istore_n (lv1 := [some (.ref 42), some (.int (0 : Int32)), some (.int (0 : Int32))]) od_149_3 rfl rfl ?_
  obtain ⟨e3, he3, h⟩ := ov_bd h
  try dsimp only at h
  refine ov_lp_S (body := (fun s => b149_4 S s.1 s.2)) (head := (fun s => ov_J L 0 149 4 [some (.ref 42), some (.int s.1), some (.int s.2)] [] S G P)) (exit := (fun e => ov_J L 0 149 29 [some (.ref 42), some (.int e), none] [] S G P)) (fun s r hb hk => bt149_4  hb hk) 2000 ((0 : Int32), (0 : Int32)) e3 he3 ?_
  show ov_J L 0 149 29 [some (.ref 42), some (.int e3), none] [] S G P
  refine ev_iconst (v := (0 : Int32)) od_149_29 (by decide) ?_
  refine ev_istore_n (lv1 := [some (.ref 42), some (.int e3), some (.int (0 : Int32))]) od_149_30 rfl rfl ?_
  obtain ⟨e6, he6, h⟩ := ov_bd h
  try dsimp only at h
  refine ov_lp_S (body := (fun s => b149_31 S s.1 s.2)) (head := (fun s => ov_J L 0 149 31 [some (.ref 42), some (.int s.1), some (.int s.2)] [] S G P)) (exit := (fun e => ov_J L 0 149 56 [none, some (.int e), none] [] S G P)) (fun s r hb hk => bt149_31  hb hk) 2000 (e3, (0 : Int32)) e6 he6 ?_
  show ov_J L 0 149 56 [none, some (.int e6), none] [] S G P
  refine ev_iload_n od_149_56 rfl ?_
  cases h
  exact ev_iret od_149_57 rfl hP
theorem R149 {L : Nat} {S : ov_S} {G : ov_L2}   {out : Int32} (h : f149 S = some out) : ov_R L 1 149 [.ref 42] S G (some (.int out)) S G :=
  ov_Rof (t149  h ⟨rfl, rfl, rfl⟩)
-- 152 OEModel.has
def f152 (x0 : Int32) (x1 : Int32) : Option (Int32) :=
  (if ((x0 >>> (x1 &&& 31)) &&& (1 : Int32)) = (1 : Int32) then some (1 : Int32) else some (0 : Int32))
theorem t152 {L : Nat} {S : ov_S} {G : ov_L2} {x0 : Int32} {x1 : Int32} {P : Option Value → ov_S → ov_L2 → Prop}  {out : Int32} (h : f152 x0 x1 = some out) (hP : P (some (.int out)) S G) : ov_J L 0 152 0 [some (.int x0), some (.int x1)] [] S G P := by
  unfold f152 at h
  refine ev_iload_n od_152_0 rfl ?_
  refine ev_iload_n od_152_1 rfl ?_
  refine ev_ishr od_152_2 ?_
  refine ev_iconst (v := (1 : Int32)) od_152_3 (by decide) ?_
  refine ev_iand od_152_4 ?_
  refine ev_iconst (v := (1 : Int32)) od_152_5 (by decide) ?_
  refine ev_icmp_ne (t := 13) od_152_6 (by decide) (fun hc1 => ?_) (fun hc1 => ?_)
  · rw [if_neg hc1] at h
    refine ev_iconst (v := (0 : Int32)) od_152_13 (by decide) ?_
    cases h
    exact ev_zret od_152_14 rfl (by decide) hP
  · rw [if_pos hc1] at h
    refine ev_iconst (v := (1 : Int32)) od_152_9 (by decide) ?_
    refine ev_goto (t := 14) od_152_10 (by decide) ?_
    cases h
    exact ev_zret od_152_14 rfl (by decide) hP
theorem R152 {L : Nat} {S : ov_S} {G : ov_L2} {x0 : Int32} {x1 : Int32}  {out : Int32} (h : f152 x0 x1 = some out) : ov_R L 1 152 [.int x0, .int x1] S G (some (.int out)) S G :=
  ov_Rof (t152  h ⟨rfl, rfl, rfl⟩)
-- 158 OEModel.copyRow
def b158_2 (p0 : Nat) (p1 : Nat) (x2 : Int32) (x3 : Int32) (S : ov_S) : Option ((Int32 × ov_S) ⊕ (ov_S)) :=
  (if x2 ≤ x3 then some (.inr S) else ov_ck (ov_ibb x3 (ov_ln p0)) (ov_ck (ov_ibb x3 (ov_ln p1)) (some (.inl ((x3 + (1 : Int32)), (ov_up S p1 (x3).toNatClampNeg (S p0 (x3).toNatClampNeg)))))))
theorem bt158_2 {L : Nat} {S : ov_S} {G : ov_L2} {p0 : Nat} {p1 : Nat} {x2 : Int32} {x3 : Int32} {P : Option Value → ov_S → ov_L2 → Prop} (hp0 : ov_A 1 p0) (hp1 : ov_A 1 p1) {out : (Int32 × ov_S) ⊕ (ov_S)} (h : b158_2 p0 p1 x2 x3 S = some out) (hk : ov_sm (σ := Int32 × ov_S) (ε := (ov_S)) (fun s => ov_J L 0 158 2 [some (.ref p0), some (.ref p1), some (.int x2), some (.int s.1)] [] s.2 G P) (fun e => ov_J L 0 158 19 [none, none, none, none] [] e G P) out) : ov_J L 0 158 2 [some (.ref p0), some (.ref p1), some (.int x2), some (.int x3)] [] S G P := by
  unfold b158_2 at h
  refine ev_iload_n od_158_2 rfl ?_
  refine ev_iload_n od_158_3 rfl ?_
  refine ev_icmp_ge (t := 19) od_158_4 (by decide) (fun hc3 => ?_) (fun hc3 => ?_)
  · rw [if_pos hc3] at h
    cases h
    refine ev_fg (lv0 := [none, none, none, none]) (ov_le_n (ov_le_n (ov_le_n (ov_le_n (ov_le_e))))) ?_
    exact hk
  · rw [if_neg hc3] at h
    refine ev_aload_n od_158_7 rfl ?_
    refine ev_iload_n od_158_8 rfl ?_
    refine ev_aload_n od_158_9 rfl ?_
    refine ev_iload_n od_158_10 rfl ?_
    obtain ⟨bq1, h⟩ := ov_ck_ok h
    refine ev_iald od_158_11 hp0 (ov_ibk bq1) ?_
    obtain ⟨bq2, h⟩ := ov_ck_ok h
    refine ev_iast od_158_12 hp1 (ov_ibk bq2) ?_
    refine ev_iinc (v := (x3 + (1 : Int32))) (lv1 := [some (.ref p0), some (.ref p1), some (.int x2), some (.int (x3 + (1 : Int32)))]) od_158_13 rfl rfl rfl ?_
    refine ev_goto (t := 2) od_158_16 (by decide) ?_
    cases h
    exact hk
def f158 (p0 : Nat) (p1 : Nat) (S : ov_S) (x2 : Int32) : Option (ov_S) :=
  ((ov_lp (fun s => b158_2 p0 p1 x2 s.1 s.2) 2000 ((0 : Int32), S)).bind fun e4 => some e4)
theorem t158 {L : Nat} {S : ov_S} {G : ov_L2} {p0 : Nat} {p1 : Nat} {x2 : Int32} {P : Option Value → ov_S → ov_L2 → Prop} (hp0 : ov_A 1 p0) (hp1 : ov_A 1 p1) {out : ov_S} (h : f158 p0 p1 S x2 = some out) (hP : P none out G) : ov_J L 0 158 0 [some (.ref p0), some (.ref p1), some (.int x2), none] [] S G P := by
  unfold f158 at h
  refine ev_iconst (v := (0 : Int32)) od_158_0 (by decide) ?_
  refine ev_istore_n (lv1 := [some (.ref p0), some (.ref p1), some (.int x2), some (.int (0 : Int32))]) od_158_1 rfl rfl ?_
  obtain ⟨e4, he4, h⟩ := ov_bd h
  try dsimp only at h
  refine ov_lp_S (body := (fun s => b158_2 p0 p1 x2 s.1 s.2)) (head := (fun s => ov_J L 0 158 2 [some (.ref p0), some (.ref p1), some (.int x2), some (.int s.1)] [] s.2 G P)) (exit := (fun e => ov_J L 0 158 19 [none, none, none, none] [] e G P)) (fun s r hb hk => bt158_2 hp0 hp1 hb hk) 2000 ((0 : Int32), S) e4 he4 ?_
  show ov_J L 0 158 19 [none, none, none, none] [] e4 G P
  cases h
  exact ev_vret od_158_19 rfl hP
theorem R158 {L : Nat} {S : ov_S} {G : ov_L2} {p0 : Nat} {p1 : Nat} {x2 : Int32} (hp0 : ov_A 1 p0) (hp1 : ov_A 1 p1) {out : ov_S} (h : f158 p0 p1 S x2 = some out) : ov_R L 1 158 [.ref p0, .ref p1, .int x2] S G none out G :=
  ov_Rof (t158 hp0 hp1 h ⟨rfl, rfl, rfl⟩)
-- 160 OEModel.on
def f160_30_4 (p1 : Nat) (S : ov_S) (x3 : Int32) (s0 : Int32) (s1 : Int32) : Option ((Int32 × Int32) ⊕ (Int32)) :=
  some (.inl ((s1 ||| s0), (x3 + (1 : Int32))))
theorem t160_30_4 {L : Nat} {S : ov_S} {G : ov_L2} {p1 : Nat} {x3 : Int32} {s0 : Int32} {s1 : Int32} {P : Option Value → ov_S → ov_L2 → Prop} (hp1 : ov_A 1 p1) {out : (Int32 × Int32) ⊕ (Int32)} (h : f160_30_4 p1 S x3 s0 s1 = some out) (hk : ov_sm (σ := Int32 × Int32) (ε := (Int32)) (fun s => ov_J L 0 160 4 [some (.ref 42), some (.ref p1), some (.int s.1), some (.int s.2)] [] S G P) (fun e => ov_J L 0 160 38 [none, none, some (.int e), none] [] S G P) out) : ov_J L 0 160 30 [some (.ref 42), some (.ref p1), none, some (.int x3)] [.int s0, .int s1] S G P := by
  unfold f160_30_4 at h
  refine ev_ior od_160_30 ?_
  refine ev_istore_n (lv1 := [some (.ref 42), some (.ref p1), some (.int (s1 ||| s0)), some (.int x3)]) od_160_31 rfl rfl ?_
  refine ev_iinc (v := (x3 + (1 : Int32))) (lv1 := [some (.ref 42), some (.ref p1), some (.int (s1 ||| s0)), some (.int (x3 + (1 : Int32)))]) od_160_32 rfl rfl rfl ?_
  refine ev_goto (t := 4) od_160_35 (by decide) ?_
  cases h
  exact hk
def b160_4 (p1 : Nat) (S : ov_S) (x2 : Int32) (x3 : Int32) : Option ((Int32 × Int32) ⊕ (Int32)) :=
  (if (S 42 7) ≤ x3 then some (.inr x2) else ov_ck (ov_ibb ((0 : Int32) + x3) (ov_ln p1)) ((if (S p1 (((0 : Int32) + x3)).toNatClampNeg) = (-9 : Int32) then f160_30_4 p1 S x3 (0 : Int32) x2 else f160_30_4 p1 S x3 ((1 : Int32) <<< (x3 &&& 31)) x2)))
theorem bt160_4 {L : Nat} {S : ov_S} {G : ov_L2} {p1 : Nat} {x2 : Int32} {x3 : Int32} {P : Option Value → ov_S → ov_L2 → Prop} (hp1 : ov_A 1 p1) {out : (Int32 × Int32) ⊕ (Int32)} (h : b160_4 p1 S x2 x3 = some out) (hk : ov_sm (σ := Int32 × Int32) (ε := (Int32)) (fun s => ov_J L 0 160 4 [some (.ref 42), some (.ref p1), some (.int s.1), some (.int s.2)] [] S G P) (fun e => ov_J L 0 160 38 [none, none, some (.int e), none] [] S G P) out) : ov_J L 0 160 4 [some (.ref 42), some (.ref p1), some (.int x2), some (.int x3)] [] S G P := by
  unfold b160_4 at h
  refine ev_iload_n od_160_4 rfl ?_
  refine ev_aload_n od_160_5 rfl ?_
  refine ev_gf (v := .int (S 42 7)) og_160_6 oO_42 rfl ?_
  refine ev_icmp_ge (t := 38) od_160_9 (by decide) (fun hc3 => ?_) (fun hc3 => ?_)
  · rw [if_pos hc3] at h
    cases h
    refine ev_fg (lv0 := [none, none, some (.int x2), none]) (ov_le_n (ov_le_n (ov_le_s (ov_le_n (ov_le_e))))) ?_
    exact hk
  · rw [if_neg hc3] at h
    refine ev_iload_n od_160_12 rfl ?_
    refine ev_aload_n od_160_13 rfl ?_
    refine ev_iconst (v := (0 : Int32)) od_160_14 (by decide) ?_
    refine ev_iload_n od_160_15 rfl ?_
    refine ev_iadd od_160_16 ?_
    obtain ⟨bq1, h⟩ := ov_ck_ok h
    refine ev_iald od_160_17 hp1 (ov_ibk bq1) ?_
    refine ev_bipush (v := (-9 : Int32)) od_160_18 (by decide) ?_
    refine ev_icmp_ne (t := 27) od_160_20 (by decide) (fun hc2 => ?_) (fun hc2 => ?_)
    · rw [if_neg hc2] at h
      refine ev_iconst (v := (1 : Int32)) od_160_27 (by decide) ?_
      refine ev_iload_n od_160_28 rfl ?_
      refine ev_ishl od_160_29 ?_
      refine ev_fg (lv0 := [some (.ref 42), some (.ref p1), none, some (.int x3)]) (ov_le_s (ov_le_s (ov_le_n (ov_le_s (ov_le_e))))) ?_
      exact t160_30_4 hp1 h hk
    · rw [if_pos hc2] at h
      refine ev_iconst (v := (0 : Int32)) od_160_23 (by decide) ?_
      refine ev_goto (t := 30) od_160_24 (by decide) ?_
      refine ev_fg (lv0 := [some (.ref 42), some (.ref p1), none, some (.int x3)]) (ov_le_s (ov_le_s (ov_le_n (ov_le_s (ov_le_e))))) ?_
      exact t160_30_4 hp1 h hk
def f160 (p1 : Nat) (S : ov_S) : Option (Int32) :=
  ((ov_lp (fun s => b160_4 p1 S s.1 s.2) 2000 ((0 : Int32), (0 : Int32))).bind fun e4 => some e4)
theorem t160 {L : Nat} {S : ov_S} {G : ov_L2} {p1 : Nat} {P : Option Value → ov_S → ov_L2 → Prop} (hp1 : ov_A 1 p1) {out : Int32} (h : f160 p1 S = some out) (hP : P (some (.int out)) S G) : ov_J L 0 160 0 [some (.ref 42), some (.ref p1), none, none] [] S G P := by
  unfold f160 at h
  refine ev_iconst (v := (0 : Int32)) od_160_0 (by decide) ?_
  refine ev_istore_n (lv1 := [some (.ref 42), some (.ref p1), some (.int (0 : Int32)), none]) od_160_1 rfl rfl ?_
  refine ev_iconst (v := (0 : Int32)) od_160_2 (by decide) ?_
  refine ev_istore_n (lv1 := [some (.ref 42), some (.ref p1), some (.int (0 : Int32)), some (.int (0 : Int32))]) od_160_3 rfl rfl ?_
  obtain ⟨e4, he4, h⟩ := ov_bd h
  try dsimp only at h
  refine ov_lp_S (body := (fun s => b160_4 p1 S s.1 s.2)) (head := (fun s => ov_J L 0 160 4 [some (.ref 42), some (.ref p1), some (.int s.1), some (.int s.2)] [] S G P)) (exit := (fun e => ov_J L 0 160 38 [none, none, some (.int e), none] [] S G P)) (fun s r hb hk => bt160_4 hp1 hb hk) 2000 ((0 : Int32), (0 : Int32)) e4 he4 ?_
  show ov_J L 0 160 38 [none, none, some (.int e4), none] [] S G P
  refine ev_iload_n od_160_38 rfl ?_
  cases h
  exact ev_iret od_160_39 rfl hP
theorem R160 {L : Nat} {S : ov_S} {G : ov_L2} {p1 : Nat} (hp1 : ov_A 1 p1) {out : Int32} (h : f160 p1 S = some out) : ov_R L 1 160 [.ref 42, .ref p1] S G (some (.int out)) S G :=
  ov_Rof (t160 hp1 h ⟨rfl, rfl, rfl⟩)
-- 162 OEModel.isSeen
def f162_91_22 (p1 : Nat) (S : ov_S) (x2 : Int32) (x3 : Int32) (x5 : Int32) (s0 : Int32) : Option ((Int32 × Int32) ⊕ (Int32)) :=
  some (.inl (s0, (x5 + (1 : Int32))))
theorem t162_91_22 {L : Nat} {S : ov_S} {G : ov_L2} {p1 : Nat} {x2 : Int32} {x3 : Int32} {x5 : Int32} {s0 : Int32} {P : Option Value → ov_S → ov_L2 → Prop} (hp1 : ov_A 1 p1) {out : (Int32 × Int32) ⊕ (Int32)} (h : f162_91_22 p1 S x2 x3 x5 s0 = some out) (hk : ov_sm (σ := Int32 × Int32) (ε := (Int32)) (fun s => ov_J L 0 162 22 [some (.ref 42), some (.ref p1), some (.int x2), some (.int x3), some (.int s.1), some (.int s.2), none] [] S G P) (fun e => ov_J L 0 162 99 [none, none, none, none, some (.int e), none, none] [] S G P) out) : ov_J L 0 162 91 [some (.ref 42), some (.ref p1), some (.int x2), some (.int x3), none, some (.int x5), none] [.int s0] S G P := by
  unfold f162_91_22 at h
  refine ev_istore (lv1 := [some (.ref 42), some (.ref p1), some (.int x2), some (.int x3), some (.int s0), some (.int x5), none]) od_162_91 rfl rfl ?_
  refine ev_iinc (v := (x5 + (1 : Int32))) (lv1 := [some (.ref 42), some (.ref p1), some (.int x2), some (.int x3), some (.int s0), some (.int (x5 + (1 : Int32))), none]) od_162_93 rfl rfl rfl ?_
  refine ev_goto (t := 22) od_162_96 (by decide) ?_
  cases h
  exact hk
def f162_90_22 (p1 : Nat) (S : ov_S) (x2 : Int32) (x3 : Int32) (x5 : Int32) : Option ((Int32 × Int32) ⊕ (Int32)) :=
  f162_91_22 p1 S x2 x3 x5 (0 : Int32)
theorem t162_90_22 {L : Nat} {S : ov_S} {G : ov_L2} {p1 : Nat} {x2 : Int32} {x3 : Int32} {x5 : Int32} {P : Option Value → ov_S → ov_L2 → Prop} (hp1 : ov_A 1 p1) {out : (Int32 × Int32) ⊕ (Int32)} (h : f162_90_22 p1 S x2 x3 x5 = some out) (hk : ov_sm (σ := Int32 × Int32) (ε := (Int32)) (fun s => ov_J L 0 162 22 [some (.ref 42), some (.ref p1), some (.int x2), some (.int x3), some (.int s.1), some (.int s.2), none] [] S G P) (fun e => ov_J L 0 162 99 [none, none, none, none, some (.int e), none, none] [] S G P) out) : ov_J L 0 162 90 [some (.ref 42), some (.ref p1), some (.int x2), some (.int x3), none, some (.int x5), none] [] S G P := by
  unfold f162_90_22 at h
  refine ev_iconst (v := (0 : Int32)) od_162_90 (by decide) ?_
  exact t162_91_22 hp1 h hk
def f162_86_22 (p1 : Nat) (S : ov_S) (x2 : Int32) (x3 : Int32) (x5 : Int32) : Option ((Int32 × Int32) ⊕ (Int32)) :=
  f162_91_22 p1 S x2 x3 x5 (1 : Int32)
theorem t162_86_22 {L : Nat} {S : ov_S} {G : ov_L2} {p1 : Nat} {x2 : Int32} {x3 : Int32} {x5 : Int32} {P : Option Value → ov_S → ov_L2 → Prop} (hp1 : ov_A 1 p1) {out : (Int32 × Int32) ⊕ (Int32)} (h : f162_86_22 p1 S x2 x3 x5 = some out) (hk : ov_sm (σ := Int32 × Int32) (ε := (Int32)) (fun s => ov_J L 0 162 22 [some (.ref 42), some (.ref p1), some (.int x2), some (.int x3), some (.int s.1), some (.int s.2), none] [] S G P) (fun e => ov_J L 0 162 99 [none, none, none, none, some (.int e), none, none] [] S G P) out) : ov_J L 0 162 86 [some (.ref 42), some (.ref p1), some (.int x2), some (.int x3), none, some (.int x5), none] [] S G P := by
  unfold f162_86_22 at h
  refine ev_iconst (v := (1 : Int32)) od_162_86 (by decide) ?_
  refine ev_goto (t := 91) od_162_87 (by decide) ?_
  exact t162_91_22 hp1 h hk
def b162_22 (p1 : Nat) (S : ov_S) (x2 : Int32) (x3 : Int32) (x4 : Int32) (x5 : Int32) : Option ((Int32 × Int32) ⊕ (Int32)) :=
  (if (S 42 7) ≤ x5 then some (.inr x4) else ov_ck (ov_ibb ((0 : Int32) + x5) (ov_ln p1)) ((if x4 = 0 then f162_90_22 p1 S x2 x3 x5 else (if x5 = x2 then f162_86_22 p1 S x2 x3 x5 else (if (S p1 (((0 : Int32) + x5)).toNatClampNeg) = (-9 : Int32) then f162_86_22 p1 S x2 x3 x5 else ov_ck (ov_ibb x5 6) ((if (S 46 (x5).toNatClampNeg) = (2 : Int32) then f162_86_22 p1 S x2 x3 x5 else (if ((S p1 (((0 : Int32) + x5)).toNatClampNeg) - (S p1 (((0 : Int32) + x5)).toNatClampNeg) / (6 : Int32) * (6 : Int32)) = (x3 - x3 / (6 : Int32) * (6 : Int32)) then (if (S p1 (((0 : Int32) + x5)).toNatClampNeg) ≤ x3 then f162_90_22 p1 S x2 x3 x5 else f162_86_22 p1 S x2 x3 x5) else f162_86_22 p1 S x2 x3 x5))))))))
theorem bt162_22 {L : Nat} {S : ov_S} {G : ov_L2} {p1 : Nat} {x2 : Int32} {x3 : Int32} {x4 : Int32} {x5 : Int32} {P : Option Value → ov_S → ov_L2 → Prop} (hp1 : ov_A 1 p1) {out : (Int32 × Int32) ⊕ (Int32)} (h : b162_22 p1 S x2 x3 x4 x5 = some out) (hk : ov_sm (σ := Int32 × Int32) (ε := (Int32)) (fun s => ov_J L 0 162 22 [some (.ref 42), some (.ref p1), some (.int x2), some (.int x3), some (.int s.1), some (.int s.2), none] [] S G P) (fun e => ov_J L 0 162 99 [none, none, none, none, some (.int e), none, none] [] S G P) out) : ov_J L 0 162 22 [some (.ref 42), some (.ref p1), some (.int x2), some (.int x3), some (.int x4), some (.int x5), none] [] S G P := by
  unfold b162_22 at h
  refine ev_iload od_162_22 rfl ?_
  refine ev_aload_n od_162_24 rfl ?_
  refine ev_gf (v := .int (S 42 7)) og_162_25 oO_42 rfl ?_
  refine ev_icmp_ge (t := 99) od_162_28 (by decide) (fun hc10 => ?_) (fun hc10 => ?_)
  · rw [if_pos hc10] at h
    cases h
    refine ev_fg (lv0 := [none, none, none, none, some (.int x4), none, none]) (ov_le_n (ov_le_n (ov_le_n (ov_le_n (ov_le_s (ov_le_n (ov_le_n (ov_le_e)))))))) ?_
    exact hk
  · rw [if_neg hc10] at h
    refine ev_aload_n od_162_31 rfl ?_
    refine ev_iconst (v := (0 : Int32)) od_162_32 (by decide) ?_
    refine ev_iload od_162_33 rfl ?_
    refine ev_iadd od_162_35 ?_
    obtain ⟨bq2, h⟩ := ov_ck_ok h
    refine ev_iald od_162_36 hp1 (ov_ibk bq2) ?_
    refine ev_istore (lv1 := [some (.ref 42), some (.ref p1), some (.int x2), some (.int x3), some (.int x4), some (.int x5), some (.int (S p1 (((0 : Int32) + x5)).toNatClampNeg))]) od_162_37 rfl rfl ?_
    refine ev_iload od_162_39 rfl ?_
    refine ev_if_eq (t := 90) od_162_41 (by decide) (fun hc9 => ?_) (fun hc9 => ?_)
    · rw [if_pos hc9] at h
      refine ev_fg (lv0 := [some (.ref 42), some (.ref p1), some (.int x2), some (.int x3), none, some (.int x5), none]) (ov_le_s (ov_le_s (ov_le_s (ov_le_s (ov_le_n (ov_le_s (ov_le_n (ov_le_e)))))))) ?_
      exact t162_90_22 hp1 h hk
    · rw [if_neg hc9] at h
      refine ev_iload od_162_44 rfl ?_
      refine ev_iload_n od_162_46 rfl ?_
      refine ev_icmp_eq (t := 86) od_162_47 (by decide) (fun hc8 => ?_) (fun hc8 => ?_)
      · rw [if_pos hc8] at h
        refine ev_fg (lv0 := [some (.ref 42), some (.ref p1), some (.int x2), some (.int x3), none, some (.int x5), none]) (ov_le_s (ov_le_s (ov_le_s (ov_le_s (ov_le_n (ov_le_s (ov_le_n (ov_le_e)))))))) ?_
        exact t162_86_22 hp1 h hk
      · rw [if_neg hc8] at h
        refine ev_iload od_162_50 rfl ?_
        refine ev_bipush (v := (-9 : Int32)) od_162_52 (by decide) ?_
        refine ev_icmp_eq (t := 86) od_162_54 (by decide) (fun hc7 => ?_) (fun hc7 => ?_)
        · rw [if_pos hc7] at h
          refine ev_fg (lv0 := [some (.ref 42), some (.ref p1), some (.int x2), some (.int x3), none, some (.int x5), none]) (ov_le_s (ov_le_s (ov_le_s (ov_le_s (ov_le_n (ov_le_s (ov_le_n (ov_le_e)))))))) ?_
          exact t162_86_22 hp1 h hk
        · rw [if_neg hc7] at h
          refine ev_aload_n od_162_57 rfl ?_
          refine ev_gf (v := .ref 46) og_162_58 oO_42 rfl ?_
          refine ev_iload od_162_61 rfl ?_
          obtain ⟨bq3, h⟩ := ov_ck_ok h
          refine ev_iald od_162_63 oA_46 (ov_ibk bq3) ?_
          refine ev_iconst (v := (2 : Int32)) od_162_64 (by decide) ?_
          refine ev_icmp_eq (t := 86) od_162_65 (by decide) (fun hc6 => ?_) (fun hc6 => ?_)
          · rw [if_pos hc6] at h
            refine ev_fg (lv0 := [some (.ref 42), some (.ref p1), some (.int x2), some (.int x3), none, some (.int x5), none]) (ov_le_s (ov_le_s (ov_le_s (ov_le_s (ov_le_n (ov_le_s (ov_le_n (ov_le_e)))))))) ?_
            exact t162_86_22 hp1 h hk
          · rw [if_neg hc6] at h
            refine ev_iload od_162_68 rfl ?_
            refine ev_bipush (v := (6 : Int32)) od_162_70 (by decide) ?_
            refine ev_irem od_162_72 (by decide) ?_
            refine ev_iload_n od_162_73 rfl ?_
            refine ev_bipush (v := (6 : Int32)) od_162_74 (by decide) ?_
            refine ev_irem od_162_76 (by decide) ?_
            refine ev_icmp_ne (t := 86) od_162_77 (by decide) (fun hc5 => ?_) (fun hc5 => ?_)
            · rw [if_neg hc5] at h
              refine ev_fg (lv0 := [some (.ref 42), some (.ref p1), some (.int x2), some (.int x3), none, some (.int x5), none]) (ov_le_s (ov_le_s (ov_le_s (ov_le_s (ov_le_n (ov_le_s (ov_le_n (ov_le_e)))))))) ?_
              exact t162_86_22 hp1 h hk
            · rw [if_pos hc5] at h
              refine ev_iload od_162_80 rfl ?_
              refine ev_iload_n od_162_82 rfl ?_
              refine ev_icmp_le (t := 90) od_162_83 (by decide) (fun hc4 => ?_) (fun hc4 => ?_)
              · rw [if_pos hc4] at h
                refine ev_fg (lv0 := [some (.ref 42), some (.ref p1), some (.int x2), some (.int x3), none, some (.int x5), none]) (ov_le_s (ov_le_s (ov_le_s (ov_le_s (ov_le_n (ov_le_s (ov_le_n (ov_le_e)))))))) ?_
                exact t162_90_22 hp1 h hk
              · rw [if_neg hc4] at h
                refine ev_fg (lv0 := [some (.ref 42), some (.ref p1), some (.int x2), some (.int x3), none, some (.int x5), none]) (ov_le_s (ov_le_s (ov_le_s (ov_le_s (ov_le_n (ov_le_s (ov_le_n (ov_le_e)))))))) ?_
                exact t162_86_22 hp1 h hk
def f162_17 (p1 : Nat) (S : ov_S) (x2 : Int32) (x3 : Int32) (s0 : Int32) : Option (Int32) :=
  ((ov_lp (fun s => b162_22 p1 S x2 x3 s.1 s.2) 2000 (s0, (0 : Int32))).bind fun e11 => ov_ck (ov_b01 e11) (some e11))
theorem t162_17 {L : Nat} {S : ov_S} {G : ov_L2} {p1 : Nat} {x2 : Int32} {x3 : Int32} {s0 : Int32} {P : Option Value → ov_S → ov_L2 → Prop} (hp1 : ov_A 1 p1) {out : Int32} (h : f162_17 p1 S x2 x3 s0 = some out) (hP : P (some (.int out)) S G) : ov_J L 0 162 17 [some (.ref 42), some (.ref p1), some (.int x2), some (.int x3), none, none, none] [.int s0] S G P := by
  unfold f162_17 at h
  refine ev_istore (lv1 := [some (.ref 42), some (.ref p1), some (.int x2), some (.int x3), some (.int s0), none, none]) od_162_17 rfl rfl ?_
  refine ev_iconst (v := (0 : Int32)) od_162_19 (by decide) ?_
  refine ev_istore (lv1 := [some (.ref 42), some (.ref p1), some (.int x2), some (.int x3), some (.int s0), some (.int (0 : Int32)), none]) od_162_20 rfl rfl ?_
  obtain ⟨e11, he11, h⟩ := ov_bd h
  try dsimp only at h
  refine ov_lp_S (body := (fun s => b162_22 p1 S x2 x3 s.1 s.2)) (head := (fun s => ov_J L 0 162 22 [some (.ref 42), some (.ref p1), some (.int x2), some (.int x3), some (.int s.1), some (.int s.2), none] [] S G P)) (exit := (fun e => ov_J L 0 162 99 [none, none, none, none, some (.int e), none, none] [] S G P)) (fun s r hb hk => bt162_22 hp1 hb hk) 2000 (s0, (0 : Int32)) e11 he11 ?_
  show ov_J L 0 162 99 [none, none, none, none, some (.int e11), none, none] [] S G P
  refine ev_iload od_162_99 rfl ?_
  obtain ⟨bq12, h⟩ := ov_ck_ok h
  cases h
  exact ev_zret od_162_101 rfl (ov_b01k bq12) hP
def f162 (p1 : Nat) (S : ov_S) (x2 : Int32) : Option (Int32) :=
  ov_ck (ov_ibb ((0 : Int32) + x2) (ov_ln p1)) ((if (S p1 (((0 : Int32) + x2)).toNatClampNeg) = (-9 : Int32) then f162_17 p1 S x2 (S p1 (((0 : Int32) + x2)).toNatClampNeg) (0 : Int32) else f162_17 p1 S x2 (S p1 (((0 : Int32) + x2)).toNatClampNeg) (1 : Int32)))
theorem t162 {L : Nat} {S : ov_S} {G : ov_L2} {p1 : Nat} {x2 : Int32} {P : Option Value → ov_S → ov_L2 → Prop} (hp1 : ov_A 1 p1) {out : Int32} (h : f162 p1 S x2 = some out) (hP : P (some (.int out)) S G) : ov_J L 0 162 0 [some (.ref 42), some (.ref p1), some (.int x2), none, none, none, none] [] S G P := by
  unfold f162 at h
  refine ev_aload_n od_162_0 rfl ?_
  refine ev_iconst (v := (0 : Int32)) od_162_1 (by decide) ?_
  refine ev_iload_n od_162_2 rfl ?_
  refine ev_iadd od_162_3 ?_
  obtain ⟨bq1, h⟩ := ov_ck_ok h
  refine ev_iald od_162_4 hp1 (ov_ibk bq1) ?_
  refine ev_istore_n (lv1 := [some (.ref 42), some (.ref p1), some (.int x2), some (.int (S p1 (((0 : Int32) + x2)).toNatClampNeg)), none, none, none]) od_162_5 rfl rfl ?_
  refine ev_iload_n od_162_6 rfl ?_
  refine ev_bipush (v := (-9 : Int32)) od_162_7 (by decide) ?_
  refine ev_icmp_eq (t := 16) od_162_9 (by decide) (fun hc13 => ?_) (fun hc13 => ?_)
  · rw [if_pos hc13] at h
    refine ev_iconst (v := (0 : Int32)) od_162_16 (by decide) ?_
    exact t162_17 hp1 h hP
  · rw [if_neg hc13] at h
    refine ev_iconst (v := (1 : Int32)) od_162_12 (by decide) ?_
    refine ev_goto (t := 17) od_162_13 (by decide) ?_
    exact t162_17 hp1 h hP
theorem R162 {L : Nat} {S : ov_S} {G : ov_L2} {p1 : Nat} {x2 : Int32} (hp1 : ov_A 1 p1) {out : Int32} (h : f162 p1 S x2 = some out) : ov_R L 1 162 [.ref 42, .ref p1, .int x2] S G (some (.int out)) S G :=
  ov_Rof (t162 hp1 h ⟨rfl, rfl, rfl⟩)
-- 167 OEModel.size
def f167 (x0 : Int32) : Option (Int32) :=
  (if 0 ≤ x0 then some x0 else some (-x0))
theorem t167 {L : Nat} {S : ov_S} {G : ov_L2} {x0 : Int32} {P : Option Value → ov_S → ov_L2 → Prop}  {out : Int32} (h : f167 x0 = some out) (hP : P (some (.int out)) S G) : ov_J L 0 167 0 [some (.int x0)] [] S G P := by
  unfold f167 at h
  refine ev_iload_n od_167_0 rfl ?_
  refine ev_if_ge (t := 9) od_167_1 (by decide) (fun hc1 => ?_) (fun hc1 => ?_)
  · rw [if_pos hc1] at h
    refine ev_iload_n od_167_9 rfl ?_
    cases h
    exact ev_iret od_167_10 rfl hP
  · rw [if_neg hc1] at h
    refine ev_iload_n od_167_4 rfl ?_
    refine ev_ineg od_167_5 ?_
    refine ev_goto (t := 10) od_167_6 (by decide) ?_
    cases h
    exact ev_iret od_167_10 rfl hP
theorem R167 {L : Nat} {S : ov_S} {G : ov_L2} {x0 : Int32}  {out : Int32} (h : f167 x0 = some out) : ov_R L 1 167 [.int x0] S G (some (.int out)) S G :=
  ov_Rof (t167  h ⟨rfl, rfl, rfl⟩)
-- 168 OEModel.stoolsOn
def b168_4 (p1 : Nat) (S : ov_S) (x2 : Int32) (x3 : Int32) : Option ((Int32 × Int32) ⊕ (Int32)) :=
  (if (S 42 6) ≤ x3 then some (.inr x2) else ov_ck (ov_ibb ((7 : Int32) + x3) (ov_ln p1)) (some (.inl ((x2 ||| ((1 : Int32) <<< ((S p1 (((7 : Int32) + x3)).toNatClampNeg) &&& 31))), (x3 + (1 : Int32))))))
theorem bt168_4 {L : Nat} {S : ov_S} {G : ov_L2} {p1 : Nat} {x2 : Int32} {x3 : Int32} {P : Option Value → ov_S → ov_L2 → Prop} (hp1 : ov_A 1 p1) {out : (Int32 × Int32) ⊕ (Int32)} (h : b168_4 p1 S x2 x3 = some out) (hk : ov_sm (σ := Int32 × Int32) (ε := (Int32)) (fun s => ov_J L 0 168 4 [some (.ref 42), some (.ref p1), some (.int s.1), some (.int s.2)] [] S G P) (fun e => ov_J L 0 168 29 [none, none, some (.int e), none] [] S G P) out) : ov_J L 0 168 4 [some (.ref 42), some (.ref p1), some (.int x2), some (.int x3)] [] S G P := by
  unfold b168_4 at h
  refine ev_iload_n od_168_4 rfl ?_
  refine ev_aload_n od_168_5 rfl ?_
  refine ev_gf (v := .int (S 42 6)) og_168_6 oO_42 rfl ?_
  refine ev_icmp_ge (t := 29) od_168_9 (by decide) (fun hc2 => ?_) (fun hc2 => ?_)
  · rw [if_pos hc2] at h
    cases h
    refine ev_fg (lv0 := [none, none, some (.int x2), none]) (ov_le_n (ov_le_n (ov_le_s (ov_le_n (ov_le_e))))) ?_
    exact hk
  · rw [if_neg hc2] at h
    refine ev_iload_n od_168_12 rfl ?_
    refine ev_iconst (v := (1 : Int32)) od_168_13 (by decide) ?_
    refine ev_aload_n od_168_14 rfl ?_
    refine ev_bipush (v := (7 : Int32)) od_168_15 (by decide) ?_
    refine ev_iload_n od_168_17 rfl ?_
    refine ev_iadd od_168_18 ?_
    obtain ⟨bq1, h⟩ := ov_ck_ok h
    refine ev_iald od_168_19 hp1 (ov_ibk bq1) ?_
    refine ev_ishl od_168_20 ?_
    refine ev_ior od_168_21 ?_
    refine ev_istore_n (lv1 := [some (.ref 42), some (.ref p1), some (.int (x2 ||| ((1 : Int32) <<< ((S p1 (((7 : Int32) + x3)).toNatClampNeg) &&& 31)))), some (.int x3)]) od_168_22 rfl rfl ?_
    refine ev_iinc (v := (x3 + (1 : Int32))) (lv1 := [some (.ref 42), some (.ref p1), some (.int (x2 ||| ((1 : Int32) <<< ((S p1 (((7 : Int32) + x3)).toNatClampNeg) &&& 31)))), some (.int (x3 + (1 : Int32)))]) od_168_23 rfl rfl rfl ?_
    refine ev_goto (t := 4) od_168_26 (by decide) ?_
    cases h
    exact hk
def f168 (p1 : Nat) (S : ov_S) : Option (Int32) :=
  ((ov_lp (fun s => b168_4 p1 S s.1 s.2) 2000 ((0 : Int32), (0 : Int32))).bind fun e3 => some e3)
theorem t168 {L : Nat} {S : ov_S} {G : ov_L2} {p1 : Nat} {P : Option Value → ov_S → ov_L2 → Prop} (hp1 : ov_A 1 p1) {out : Int32} (h : f168 p1 S = some out) (hP : P (some (.int out)) S G) : ov_J L 0 168 0 [some (.ref 42), some (.ref p1), none, none] [] S G P := by
  unfold f168 at h
  refine ev_iconst (v := (0 : Int32)) od_168_0 (by decide) ?_
  refine ev_istore_n (lv1 := [some (.ref 42), some (.ref p1), some (.int (0 : Int32)), none]) od_168_1 rfl rfl ?_
  refine ev_iconst (v := (0 : Int32)) od_168_2 (by decide) ?_
  refine ev_istore_n (lv1 := [some (.ref 42), some (.ref p1), some (.int (0 : Int32)), some (.int (0 : Int32))]) od_168_3 rfl rfl ?_
  obtain ⟨e3, he3, h⟩ := ov_bd h
  try dsimp only at h
  refine ov_lp_S (body := (fun s => b168_4 p1 S s.1 s.2)) (head := (fun s => ov_J L 0 168 4 [some (.ref 42), some (.ref p1), some (.int s.1), some (.int s.2)] [] S G P)) (exit := (fun e => ov_J L 0 168 29 [none, none, some (.int e), none] [] S G P)) (fun s r hb hk => bt168_4 hp1 hb hk) 2000 ((0 : Int32), (0 : Int32)) e3 he3 ?_
  show ov_J L 0 168 29 [none, none, some (.int e3), none] [] S G P
  refine ev_iload_n od_168_29 rfl ?_
  cases h
  exact ev_iret od_168_30 rfl hP
theorem R168 {L : Nat} {S : ov_S} {G : ov_L2} {p1 : Nat} (hp1 : ov_A 1 p1) {out : Int32} (h : f168 p1 S = some out) : ov_R L 1 168 [.ref 42, .ref p1] S G (some (.int out)) S G :=
  ov_Rof (t168 hp1 h ⟨rfl, rfl, rfl⟩)
-- 180 OEModel.nextCell
def f180 (x0 : Int32) (x1 : Int32) : Option (Int32) :=
  (if x1 = (0 : Int32) then (if (x0 - x0 / (6 : Int32) * (6 : Int32)) = 0 then some (-9 : Int32) else some (x0 - (1 : Int32))) else if x1 = (1 : Int32) then (if (x0 - x0 / (6 : Int32) * (6 : Int32)) = (5 : Int32) then some (-9 : Int32) else some (x0 + (1 : Int32))) else if x1 = (2 : Int32) then (if (6 : Int32) ≤ x0 then some (x0 - (6 : Int32)) else some (-9 : Int32)) else (if (18 : Int32) ≤ (x0 + (6 : Int32)) then some (-9 : Int32) else some (x0 + (6 : Int32))))
theorem t180 {L : Nat} {S : ov_S} {G : ov_L2} {x0 : Int32} {x1 : Int32} {P : Option Value → ov_S → ov_L2 → Prop}  {out : Int32} (h : f180 x0 x1 = some out) (hP : P (some (.int out)) S G) : ov_J L 0 180 0 [some (.int x0), some (.int x1)] [] S G P := by
  unfold f180 at h
  refine ev_iload_n od_180_0 rfl ?_
  by_cases hc1 : x1 = (0 : Int32)
  · rw [if_pos hc1] at h
    refine ev_tsc (off := 27) (t := 28) hc1 od_180_1 (by decide) (by decide) ?_
    refine ev_iload_n od_180_28 rfl ?_
    refine ev_bipush (v := (6 : Int32)) od_180_29 (by decide) ?_
    refine ev_irem od_180_31 (by decide) ?_
    refine ev_if_ne (t := 40) od_180_32 (by decide) (fun hc2 => ?_) (fun hc2 => ?_)
    · rw [if_neg hc2] at h
      refine ev_iload_n od_180_40 rfl ?_
      refine ev_iconst (v := (1 : Int32)) od_180_41 (by decide) ?_
      refine ev_isub od_180_42 ?_
      cases h
      exact ev_iret od_180_43 rfl hP
    · rw [if_pos hc2] at h
      refine ev_bipush (v := (-9 : Int32)) od_180_35 (by decide) ?_
      refine ev_goto (t := 43) od_180_37 (by decide) ?_
      cases h
      exact ev_iret od_180_43 rfl hP
  rw [if_neg hc1] at h
  by_cases hc3 : x1 = (1 : Int32)
  · rw [if_pos hc3] at h
    refine ev_tsc (off := 43) (t := 44) hc3 od_180_1 (by decide) (by decide) ?_
    refine ev_iload_n od_180_44 rfl ?_
    refine ev_bipush (v := (6 : Int32)) od_180_45 (by decide) ?_
    refine ev_irem od_180_47 (by decide) ?_
    refine ev_iconst (v := (5 : Int32)) od_180_48 (by decide) ?_
    refine ev_icmp_ne (t := 57) od_180_49 (by decide) (fun hc4 => ?_) (fun hc4 => ?_)
    · rw [if_neg hc4] at h
      refine ev_iload_n od_180_57 rfl ?_
      refine ev_iconst (v := (1 : Int32)) od_180_58 (by decide) ?_
      refine ev_iadd od_180_59 ?_
      cases h
      exact ev_iret od_180_60 rfl hP
    · rw [if_pos hc4] at h
      refine ev_bipush (v := (-9 : Int32)) od_180_52 (by decide) ?_
      refine ev_goto (t := 60) od_180_54 (by decide) ?_
      cases h
      exact ev_iret od_180_60 rfl hP
  rw [if_neg hc3] at h
  by_cases hc5 : x1 = (2 : Int32)
  · rw [if_pos hc5] at h
    refine ev_tsc (off := 60) (t := 61) hc5 od_180_1 (by decide) (by decide) ?_
    refine ev_iload_n od_180_61 rfl ?_
    refine ev_bipush (v := (6 : Int32)) od_180_62 (by decide) ?_
    refine ev_icmp_ge (t := 72) od_180_64 (by decide) (fun hc6 => ?_) (fun hc6 => ?_)
    · rw [if_pos hc6] at h
      refine ev_iload_n od_180_72 rfl ?_
      refine ev_bipush (v := (6 : Int32)) od_180_73 (by decide) ?_
      refine ev_isub od_180_75 ?_
      cases h
      exact ev_iret od_180_76 rfl hP
    · rw [if_neg hc6] at h
      refine ev_bipush (v := (-9 : Int32)) od_180_67 (by decide) ?_
      refine ev_goto (t := 76) od_180_69 (by decide) ?_
      cases h
      exact ev_iret od_180_76 rfl hP
  rw [if_neg hc5] at h
  have ehc1 := ov_ni hc1
  have ehc3 := ov_ni hc3
  have ehc5 := ov_ni hc5
  have hout : (x1).toInt < 0 ∨ 2 < (x1).toInt := by
    rw [show ((0 : Int32)).toInt = 0 from by decide] at ehc1
    rw [show ((1 : Int32)).toInt = 1 from by decide] at ehc3
    rw [show ((2 : Int32)).toInt = 2 from by decide] at ehc5
    omega
  refine ev_tsd (t := 77) hout od_180_1 (by decide) ?_
  refine ev_iload_n od_180_77 rfl ?_
  refine ev_bipush (v := (6 : Int32)) od_180_78 (by decide) ?_
  refine ev_iadd od_180_80 ?_
  refine ev_bipush (v := (18 : Int32)) od_180_81 (by decide) ?_
  refine ev_icmp_ge (t := 93) od_180_83 (by decide) (fun hc7 => ?_) (fun hc7 => ?_)
  · rw [if_pos hc7] at h
    refine ev_bipush (v := (-9 : Int32)) od_180_93 (by decide) ?_
    cases h
    exact ev_iret od_180_95 rfl hP
  · rw [if_neg hc7] at h
    refine ev_iload_n od_180_86 rfl ?_
    refine ev_bipush (v := (6 : Int32)) od_180_87 (by decide) ?_
    refine ev_iadd od_180_89 ?_
    refine ev_goto (t := 95) od_180_90 (by decide) ?_
    cases h
    exact ev_iret od_180_95 rfl hP
theorem R180 {L : Nat} {S : ov_S} {G : ov_L2} {x0 : Int32} {x1 : Int32}  {out : Int32} (h : f180 x0 x1 = some out) : ov_R L 1 180 [.int x0, .int x1] S G (some (.int out)) S G :=
  ov_Rof (t180  h ⟨rfl, rfl, rfl⟩)
-- 183 OEModel.loadOf
def f183_79_5 (p1 : Nat) (S : ov_S) (x2 : Int32) (x4 : Int32) (s0 : Int32) (s1 : Int32) : Option ((Int32 × Int32) ⊕ (Int32)) :=
  some (.inl ((s1 + s0), (x4 + (1 : Int32))))
theorem t183_79_5 {L : Nat} {S : ov_S} {G : ov_L2} {p1 : Nat} {x2 : Int32} {x4 : Int32} {s0 : Int32} {s1 : Int32} {P : Option Value → ov_S → ov_L2 → Prop} (hp1 : ov_A 1 p1) {out : (Int32 × Int32) ⊕ (Int32)} (h : f183_79_5 p1 S x2 x4 s0 s1 = some out) (hk : ov_sm (σ := Int32 × Int32) (ε := (Int32)) (fun s => ov_J L 0 183 5 [some (.ref 42), some (.ref p1), some (.int x2), some (.int s.1), some (.int s.2), none] [] S G P) (fun e => ov_J L 0 183 87 [none, none, none, some (.int e), none, none] [] S G P) out) : ov_J L 0 183 79 [some (.ref 42), some (.ref p1), some (.int x2), none, some (.int x4), none] [.int s0, .int s1] S G P := by
  unfold f183_79_5 at h
  refine ev_iadd od_183_79 ?_
  refine ev_istore_n (lv1 := [some (.ref 42), some (.ref p1), some (.int x2), some (.int (s1 + s0)), some (.int x4), none]) od_183_80 rfl rfl ?_
  refine ev_iinc (v := (x4 + (1 : Int32))) (lv1 := [some (.ref 42), some (.ref p1), some (.int x2), some (.int (s1 + s0)), some (.int (x4 + (1 : Int32))), none]) od_183_81 rfl rfl rfl ?_
  refine ev_goto (t := 5) od_183_84 (by decide) ?_
  cases h
  exact hk
def f183_74_5 (p1 : Nat) (S : ov_S) (x2 : Int32) (x4 : Int32) (s0 : Int32) (s1 : Int32) (s2 : Int32) : Option ((Int32 × Int32) ⊕ (Int32)) :=
  f183_79_5 p1 S x2 x4 (s1 + s0) s2
theorem t183_74_5 {L : Nat} {S : ov_S} {G : ov_L2} {p1 : Nat} {x2 : Int32} {x4 : Int32} {s0 : Int32} {s1 : Int32} {s2 : Int32} {P : Option Value → ov_S → ov_L2 → Prop} (hp1 : ov_A 1 p1) {out : (Int32 × Int32) ⊕ (Int32)} (h : f183_74_5 p1 S x2 x4 s0 s1 s2 = some out) (hk : ov_sm (σ := Int32 × Int32) (ε := (Int32)) (fun s => ov_J L 0 183 5 [some (.ref 42), some (.ref p1), some (.int x2), some (.int s.1), some (.int s.2), none] [] S G P) (fun e => ov_J L 0 183 87 [none, none, none, some (.int e), none, none] [] S G P) out) : ov_J L 0 183 74 [some (.ref 42), some (.ref p1), some (.int x2), none, some (.int x4), none] [.int s0, .int s1, .int s2] S G P := by
  unfold f183_74_5 at h
  refine ev_iadd od_183_74 ?_
  refine ev_goto (t := 79) od_183_75 (by decide) ?_
  exact t183_79_5 hp1 h hk
def f183_43_5 (p1 : Nat) (S : ov_S) (x2 : Int32) (x3 : Int32) (x4 : Int32) (s0 : Int32) : Option ((Int32 × Int32) ⊕ (Int32)) :=
  (if s0 = 0 then f183_79_5 p1 S x2 x4 (0 : Int32) x3 else ov_ck (ov_ibb x4 6) (ov_ck (ov_ibb x4 6) ((if (S 46 (x4).toNatClampNeg) = (3 : Int32) then f183_74_5 p1 S x2 x4 (2 : Int32) (S 45 (x4).toNatClampNeg) x3 else f183_74_5 p1 S x2 x4 (0 : Int32) (S 45 (x4).toNatClampNeg) x3))))
theorem t183_43_5 {L : Nat} {S : ov_S} {G : ov_L2} {p1 : Nat} {x2 : Int32} {x3 : Int32} {x4 : Int32} {s0 : Int32} {P : Option Value → ov_S → ov_L2 → Prop} (hp1 : ov_A 1 p1) {out : (Int32 × Int32) ⊕ (Int32)} (h : f183_43_5 p1 S x2 x3 x4 s0 = some out) (hk : ov_sm (σ := Int32 × Int32) (ε := (Int32)) (fun s => ov_J L 0 183 5 [some (.ref 42), some (.ref p1), some (.int x2), some (.int s.1), some (.int s.2), none] [] S G P) (fun e => ov_J L 0 183 87 [none, none, none, some (.int e), none, none] [] S G P) out) : ov_J L 0 183 43 [some (.ref 42), some (.ref p1), some (.int x2), some (.int x3), some (.int x4), none] [.int s0] S G P := by
  unfold f183_43_5 at h
  refine ev_istore (lv1 := [some (.ref 42), some (.ref p1), some (.int x2), some (.int x3), some (.int x4), some (.int s0)]) od_183_43 rfl rfl ?_
  refine ev_iload_n od_183_45 rfl ?_
  refine ev_iload od_183_46 rfl ?_
  refine ev_if_eq (t := 78) od_183_48 (by decide) (fun hc5 => ?_) (fun hc5 => ?_)
  · rw [if_pos hc5] at h
    refine ev_iconst (v := (0 : Int32)) od_183_78 (by decide) ?_
    refine ev_fg (lv0 := [some (.ref 42), some (.ref p1), some (.int x2), none, some (.int x4), none]) (ov_le_s (ov_le_s (ov_le_s (ov_le_n (ov_le_s (ov_le_n (ov_le_e))))))) ?_
    exact t183_79_5 hp1 h hk
  · rw [if_neg hc5] at h
    refine ev_aload_n od_183_51 rfl ?_
    refine ev_gf (v := .ref 45) og_183_52 oO_42 rfl ?_
    refine ev_iload od_183_55 rfl ?_
    obtain ⟨bq2, h⟩ := ov_ck_ok h
    refine ev_iald od_183_57 oA_45 (ov_ibk bq2) ?_
    refine ev_aload_n od_183_58 rfl ?_
    refine ev_gf (v := .ref 46) og_183_59 oO_42 rfl ?_
    refine ev_iload od_183_62 rfl ?_
    obtain ⟨bq3, h⟩ := ov_ck_ok h
    refine ev_iald od_183_64 oA_46 (ov_ibk bq3) ?_
    refine ev_iconst (v := (3 : Int32)) od_183_65 (by decide) ?_
    refine ev_icmp_ne (t := 73) od_183_66 (by decide) (fun hc4 => ?_) (fun hc4 => ?_)
    · rw [if_neg hc4] at h
      refine ev_iconst (v := (0 : Int32)) od_183_73 (by decide) ?_
      refine ev_fg (lv0 := [some (.ref 42), some (.ref p1), some (.int x2), none, some (.int x4), none]) (ov_le_s (ov_le_s (ov_le_s (ov_le_n (ov_le_s (ov_le_n (ov_le_e))))))) ?_
      exact t183_74_5 hp1 h hk
    · rw [if_pos hc4] at h
      refine ev_iconst (v := (2 : Int32)) od_183_69 (by decide) ?_
      refine ev_goto (t := 74) od_183_70 (by decide) ?_
      refine ev_fg (lv0 := [some (.ref 42), some (.ref p1), some (.int x2), none, some (.int x4), none]) (ov_le_s (ov_le_s (ov_le_s (ov_le_n (ov_le_s (ov_le_n (ov_le_e))))))) ?_
      exact t183_74_5 hp1 h hk
def f183_42_5 (p1 : Nat) (S : ov_S) (x2 : Int32) (x3 : Int32) (x4 : Int32) : Option ((Int32 × Int32) ⊕ (Int32)) :=
  f183_43_5 p1 S x2 x3 x4 (0 : Int32)
theorem t183_42_5 {L : Nat} {S : ov_S} {G : ov_L2} {p1 : Nat} {x2 : Int32} {x3 : Int32} {x4 : Int32} {P : Option Value → ov_S → ov_L2 → Prop} (hp1 : ov_A 1 p1) {out : (Int32 × Int32) ⊕ (Int32)} (h : f183_42_5 p1 S x2 x3 x4 = some out) (hk : ov_sm (σ := Int32 × Int32) (ε := (Int32)) (fun s => ov_J L 0 183 5 [some (.ref 42), some (.ref p1), some (.int x2), some (.int s.1), some (.int s.2), none] [] S G P) (fun e => ov_J L 0 183 87 [none, none, none, some (.int e), none, none] [] S G P) out) : ov_J L 0 183 42 [some (.ref 42), some (.ref p1), some (.int x2), some (.int x3), some (.int x4), none] [] S G P := by
  unfold f183_42_5 at h
  refine ev_iconst (v := (0 : Int32)) od_183_42 (by decide) ?_
  exact t183_43_5 hp1 h hk
def b183_5 (p1 : Nat) (S : ov_S) (x2 : Int32) (x3 : Int32) (x4 : Int32) : Option ((Int32 × Int32) ⊕ (Int32)) :=
  (if (S 42 7) ≤ x4 then some (.inr x3) else ov_ck (ov_ibb ((0 : Int32) + x4) (ov_ln p1)) ((if (S p1 (((0 : Int32) + x4)).toNatClampNeg) = (-9 : Int32) then f183_42_5 p1 S x2 x3 x4 else ov_ck (ov_ibb ((0 : Int32) + x4) (ov_ln p1)) ((if ((S p1 (((0 : Int32) + x4)).toNatClampNeg) - (S p1 (((0 : Int32) + x4)).toNatClampNeg) / (6 : Int32) * (6 : Int32)) = x2 then f183_43_5 p1 S x2 x3 x4 (1 : Int32) else f183_42_5 p1 S x2 x3 x4)))))
theorem bt183_5 {L : Nat} {S : ov_S} {G : ov_L2} {p1 : Nat} {x2 : Int32} {x3 : Int32} {x4 : Int32} {P : Option Value → ov_S → ov_L2 → Prop} (hp1 : ov_A 1 p1) {out : (Int32 × Int32) ⊕ (Int32)} (h : b183_5 p1 S x2 x3 x4 = some out) (hk : ov_sm (σ := Int32 × Int32) (ε := (Int32)) (fun s => ov_J L 0 183 5 [some (.ref 42), some (.ref p1), some (.int x2), some (.int s.1), some (.int s.2), none] [] S G P) (fun e => ov_J L 0 183 87 [none, none, none, some (.int e), none, none] [] S G P) out) : ov_J L 0 183 5 [some (.ref 42), some (.ref p1), some (.int x2), some (.int x3), some (.int x4), none] [] S G P := by
  unfold b183_5 at h
  refine ev_iload od_183_5 rfl ?_
  refine ev_aload_n od_183_7 rfl ?_
  refine ev_gf (v := .int (S 42 7)) og_183_8 oO_42 rfl ?_
  refine ev_icmp_ge (t := 87) od_183_11 (by decide) (fun hc9 => ?_) (fun hc9 => ?_)
  · rw [if_pos hc9] at h
    cases h
    refine ev_fg (lv0 := [none, none, none, some (.int x3), none, none]) (ov_le_n (ov_le_n (ov_le_n (ov_le_s (ov_le_n (ov_le_n (ov_le_e))))))) ?_
    exact hk
  · rw [if_neg hc9] at h
    refine ev_aload_n od_183_14 rfl ?_
    refine ev_iconst (v := (0 : Int32)) od_183_15 (by decide) ?_
    refine ev_iload od_183_16 rfl ?_
    refine ev_iadd od_183_18 ?_
    obtain ⟨bq1, h⟩ := ov_ck_ok h
    refine ev_iald od_183_19 hp1 (ov_ibk bq1) ?_
    refine ev_bipush (v := (-9 : Int32)) od_183_20 (by decide) ?_
    refine ev_icmp_eq (t := 42) od_183_22 (by decide) (fun hc8 => ?_) (fun hc8 => ?_)
    · rw [if_pos hc8] at h
      exact t183_42_5 hp1 h hk
    · rw [if_neg hc8] at h
      refine ev_aload_n od_183_25 rfl ?_
      refine ev_iconst (v := (0 : Int32)) od_183_26 (by decide) ?_
      refine ev_iload od_183_27 rfl ?_
      refine ev_iadd od_183_29 ?_
      obtain ⟨bq6, h⟩ := ov_ck_ok h
      refine ev_iald od_183_30 hp1 (ov_ibk bq6) ?_
      refine ev_bipush (v := (6 : Int32)) od_183_31 (by decide) ?_
      refine ev_irem od_183_33 (by decide) ?_
      refine ev_iload_n od_183_34 rfl ?_
      refine ev_icmp_ne (t := 42) od_183_35 (by decide) (fun hc7 => ?_) (fun hc7 => ?_)
      · rw [if_neg hc7] at h
        exact t183_42_5 hp1 h hk
      · rw [if_pos hc7] at h
        refine ev_iconst (v := (1 : Int32)) od_183_38 (by decide) ?_
        refine ev_goto (t := 43) od_183_39 (by decide) ?_
        exact t183_43_5 hp1 h hk
def f183 (p1 : Nat) (S : ov_S) (x2 : Int32) : Option (Int32) :=
  ((ov_lp (fun s => b183_5 p1 S x2 s.1 s.2) 2000 ((0 : Int32), (0 : Int32))).bind fun e10 => some e10)
theorem t183 {L : Nat} {S : ov_S} {G : ov_L2} {p1 : Nat} {x2 : Int32} {P : Option Value → ov_S → ov_L2 → Prop} (hp1 : ov_A 1 p1) {out : Int32} (h : f183 p1 S x2 = some out) (hP : P (some (.int out)) S G) : ov_J L 0 183 0 [some (.ref 42), some (.ref p1), some (.int x2), none, none, none] [] S G P := by
  unfold f183 at h
  refine ev_iconst (v := (0 : Int32)) od_183_0 (by decide) ?_
  refine ev_istore_n (lv1 := [some (.ref 42), some (.ref p1), some (.int x2), some (.int (0 : Int32)), none, none]) od_183_1 rfl rfl ?_
  refine ev_iconst (v := (0 : Int32)) od_183_2 (by decide) ?_
  refine ev_istore (lv1 := [some (.ref 42), some (.ref p1), some (.int x2), some (.int (0 : Int32)), some (.int (0 : Int32)), none]) od_183_3 rfl rfl ?_
  obtain ⟨e10, he10, h⟩ := ov_bd h
  try dsimp only at h
  refine ov_lp_S (body := (fun s => b183_5 p1 S x2 s.1 s.2)) (head := (fun s => ov_J L 0 183 5 [some (.ref 42), some (.ref p1), some (.int x2), some (.int s.1), some (.int s.2), none] [] S G P)) (exit := (fun e => ov_J L 0 183 87 [none, none, none, some (.int e), none, none] [] S G P)) (fun s r hb hk => bt183_5 hp1 hb hk) 2000 ((0 : Int32), (0 : Int32)) e10 he10 ?_
  show ov_J L 0 183 87 [none, none, none, some (.int e10), none, none] [] S G P
  refine ev_iload_n od_183_87 rfl ?_
  cases h
  exact ev_iret od_183_88 rfl hP
theorem R183 {L : Nat} {S : ov_S} {G : ov_L2} {p1 : Nat} {x2 : Int32} (hp1 : ov_A 1 p1) {out : Int32} (h : f183 p1 S x2 = some out) : ov_R L 1 183 [.ref 42, .ref p1, .int x2] S G (some (.int out)) S G :=
  ov_Rof (t183 hp1 h ⟨rfl, rfl, rfl⟩)
