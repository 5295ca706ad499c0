-- 7 OE$Play.hasStool
def f7 (a : Nat) (S : ov_S) (x1 : Int32) : Option (Int32) :=
  (if x1 < 0 then some (0 : Int32) else (if (S a 1) ≤ x1 then some (0 : Int32) else some (1 : Int32)))
theorem t7 {L : Nat} {S : ov_S} {G : ov_L2} {a : Nat} {x1 : Int32} {P : Option Value → ov_S → ov_L2 → Prop} (ha : ov_Pl a) {out : Int32} (h : f7 a S x1 = some out) (hP : P (some (.int out)) S G) : ov_J L 0 7 0 [some (.ref a), some (.int x1)] [] S G P := by
  unfold f7 at h
  refine ev_iload_n od_7_0 rfl ?_
  refine ev_if_lt (t := 16) od_7_1 (by decide) (fun hc2 => ?_) (fun hc2 => ?_)
  · rw [if_pos hc2] at h
    refine ev_iconst (v := (0 : Int32)) od_7_16 (by decide) ?_
    cases h
    exact ev_zret od_7_17 rfl (by decide) hP
  · rw [if_neg hc2] at h
    refine ev_iload_n od_7_4 rfl ?_
    refine ev_aload_n od_7_5 rfl ?_
    refine ev_gf (v := .int (S a 1)) og_7_6 (pl_O ha) (pl_v1 ha) ?_
    refine ev_icmp_ge (t := 16) od_7_9 (by decide) (fun hc1 => ?_) (fun hc1 => ?_)
    · rw [if_pos hc1] at h
      refine ev_iconst (v := (0 : Int32)) od_7_16 (by decide) ?_
      cases h
      exact ev_zret od_7_17 rfl (by decide) hP
    · rw [if_neg hc1] at h
      refine ev_iconst (v := (1 : Int32)) od_7_12 (by decide) ?_
      refine ev_goto (t := 17) od_7_13 (by decide) ?_
      cases h
      exact ev_zret od_7_17 rfl (by decide) hP
theorem R7 {L : Nat} {S : ov_S} {G : ov_L2} {a : Nat} {x1 : Int32} (ha : ov_Pl a) {out : Int32} (h : f7 a S x1 = some out) : ov_R L 1 7 [.ref a, .int x1] S G (some (.int out)) S G :=
  ov_Rof (t7 ha h ⟨rfl, rfl, rfl⟩)
-- 13 OE$Script.append
def f13 (S : ov_S) (x1 : Int32) : Option (Int32 × ov_S) :=
  (if (S 2 1) < (60 : Int32) then ov_ck (ov_ibb (S 2 1) 60) (some ((1 : Int32), (ov_up (ov_up S 3 ((S 2 1)).toNatClampNeg x1) 2 1 (((ov_up S 3 ((S 2 1)).toNatClampNeg x1) 2 1) + (1 : Int32))))) else some ((0 : Int32), S))
theorem t13 {L : Nat} {S : ov_S} {G : ov_L2} {x1 : Int32} {P : Option Value → ov_S → ov_L2 → Prop}  {out : Int32 × ov_S} (h : f13 S x1 = some out) (hP : P (some (.int out.1)) out.2 G) : ov_J L 0 13 0 [some (.ref 2), some (.int x1)] [] S G P := by
  unfold f13 at h
  refine ev_aload_n od_13_0 rfl ?_
  refine ev_gf (v := .int (S 2 1)) og_13_1 oO_2 rfl ?_
  refine ev_bipush (v := (60 : Int32)) od_13_4 (by decide) ?_
  refine ev_icmp_lt (t := 11) od_13_6 (by decide) (fun hc2 => ?_) (fun hc2 => ?_)
  · rw [if_pos hc2] at h
    refine ev_aload_n od_13_11 rfl ?_
    refine ev_gf (v := .ref 3) og_13_12 oO_2 rfl ?_
    refine ev_aload_n od_13_15 rfl ?_
    refine ev_gf (v := .int (S 2 1)) og_13_16 oO_2 rfl ?_
    refine ev_iload_n od_13_19 rfl ?_
    obtain ⟨bq1, h⟩ := ov_ck_ok h
    refine ev_iast od_13_20 oA_3 (ov_ibk bq1) ?_
    refine ev_aload_n od_13_21 rfl ?_
    refine ev_dup od_13_22 rfl ?_
    refine ev_gf (v := .int ((ov_up S 3 ((S 2 1)).toNatClampNeg x1) 2 1)) og_13_23 oO_2 rfl ?_
    refine ev_iconst (v := (1 : Int32)) od_13_26 (by decide) ?_
    refine ev_iadd od_13_27 ?_
    refine ev_pf op_13_28 oO_2 rfl rfl ?_
    refine ev_iconst (v := (1 : Int32)) od_13_31 (by decide) ?_
    cases h
    exact ev_zret od_13_32 rfl (by decide) hP
  · rw [if_neg hc2] at h
    refine ev_iconst (v := (0 : Int32)) od_13_9 (by decide) ?_
    cases h
    exact ev_zret od_13_10 rfl (by decide) hP
theorem R13 {L : Nat} {S : ov_S} {G : ov_L2} {x1 : Int32}  {out : Int32 × ov_S} (h : f13 S x1 = some out) : ov_R L 1 13 [.ref 2, .int x1] S G (some (.int out.1)) out.2 G :=
  ov_Rof (t13  h ⟨rfl, rfl, rfl⟩)
-- 14 OE$Script.size
def f14 (S : ov_S) : Option (Int32) :=
  some (S 2 1)
theorem t14 {L : Nat} {S : ov_S} {G : ov_L2}  {P : Option Value → ov_S → ov_L2 → Prop}  {out : Int32} (h : f14 S = some out) (hP : P (some (.int out)) S G) : ov_J L 0 14 0 [some (.ref 2)] [] S G P := by
  unfold f14 at h
  refine ev_aload_n od_14_0 rfl ?_
  refine ev_gf (v := .int (S 2 1)) og_14_1 oO_2 rfl ?_
  cases h
  exact ev_iret od_14_4 rfl hP
theorem R14 {L : Nat} {S : ov_S} {G : ov_L2}   {out : Int32} (h : f14 S = some out) : ov_R L 1 14 [.ref 2] S G (some (.int out)) S G :=
  ov_Rof (t14  h ⟨rfl, rfl, rfl⟩)
-- 16 OE$Script.empty
def f16 (S : ov_S) : Option (ov_S) :=
  some (ov_up S 2 1 (0 : Int32))
theorem t16 {L : Nat} {S : ov_S} {G : ov_L2}  {P : Option Value → ov_S → ov_L2 → Prop}  {out : ov_S} (h : f16 S = some out) (hP : P none out G) : ov_J L 0 16 0 [some (.ref 2)] [] S G P := by
  unfold f16 at h
  refine ev_aload_n od_16_0 rfl ?_
  refine ev_iconst (v := (0 : Int32)) od_16_1 (by decide) ?_
  refine ev_pf op_16_2 oO_2 rfl rfl ?_
  cases h
  exact ev_vret od_16_5 rfl hP
theorem R16 {L : Nat} {S : ov_S} {G : ov_L2}   {out : ov_S} (h : f16 S = some out) : ov_R L 1 16 [.ref 2] S G none out G :=
  ov_Rof (t16  h ⟨rfl, rfl, rfl⟩)
-- 19 OE$Play.forget
def f19 (a : Nat) (S : ov_S) : Option (ov_S) :=
  some (ov_up (ov_up (ov_up (ov_up (ov_up (ov_up S a 0 (0 : Int32)) a 1 (0 : Int32)) a 2 (0 : Int32)) a 3 (0 : Int32)) a 10 (0 : Int32)) a 11 (0 : Int32))
theorem t19 {L : Nat} {S : ov_S} {G : ov_L2} {a : Nat} {P : Option Value → ov_S → ov_L2 → Prop} (ha : ov_Pl a) {out : ov_S} (h : f19 a S = some out) (hP : P none out G) : ov_J L 0 19 0 [some (.ref a)] [] S G P := by
  unfold f19 at h
  refine ev_aload_n od_19_0 rfl ?_
  refine ev_iconst (v := (0 : Int32)) od_19_1 (by decide) ?_
  refine ev_pf op_19_2 (pl_O ha) (pl_c0 ha) rfl ?_
  refine ev_aload_n od_19_5 rfl ?_
  refine ev_iconst (v := (0 : Int32)) od_19_6 (by decide) ?_
  refine ev_pf op_19_7 (pl_O ha) (pl_c1 ha) rfl ?_
  refine ev_aload_n od_19_10 rfl ?_
  refine ev_iconst (v := (0 : Int32)) od_19_11 (by decide) ?_
  refine ev_pf op_19_12 (pl_O ha) (pl_c2 ha) rfl ?_
  refine ev_aload_n od_19_15 rfl ?_
  refine ev_iconst (v := (0 : Int32)) od_19_16 (by decide) ?_
  refine ev_pf op_19_17 (pl_O ha) (pl_c3 ha) rfl ?_
  refine ev_aload_n od_19_20 rfl ?_
  refine ev_iconst (v := (0 : Int32)) od_19_21 (by decide) ?_
  refine ev_pf op_19_22 (pl_O ha) (pl_c10 ha) rfl ?_
  refine ev_aload_n od_19_25 rfl ?_
  refine ev_iconst (v := (0 : Int32)) od_19_26 (by decide) ?_
  refine ev_pf op_19_27 (pl_O ha) (pl_c11 ha) rfl ?_
  cases h
  exact ev_vret od_19_30 rfl hP
theorem R19 {L : Nat} {S : ov_S} {G : ov_L2} {a : Nat} (ha : ov_Pl a) {out : ov_S} (h : f19 a S = some out) : ov_R L 1 19 [.ref a] S G none out G :=
  ov_Rof (t19 ha h ⟨rfl, rfl, rfl⟩)
-- 20 OE$Script.byteAt
def f20 (S : ov_S) (x1 : Int32) : Option (Int32) :=
  (if x1 < 0 then some (-1 : Int32) else (if (S 2 1) ≤ x1 then some (-1 : Int32) else ov_ck (ov_ibb x1 60) (some (S 3 (x1).toNatClampNeg))))
theorem t20 {L : Nat} {S : ov_S} {G : ov_L2} {x1 : Int32} {P : Option Value → ov_S → ov_L2 → Prop}  {out : Int32} (h : f20 S x1 = some out) (hP : P (some (.int out)) S G) : ov_J L 0 20 0 [some (.ref 2), some (.int x1)] [] S G P := by
  unfold f20 at h
  refine ev_iload_n od_20_0 rfl ?_
  refine ev_if_lt (t := 21) od_20_1 (by decide) (fun hc3 => ?_) (fun hc3 => ?_)
  · rw [if_pos hc3] at h
    refine ev_iconst (v := (-1 : Int32)) od_20_21 (by decide) ?_
    cases h
    exact ev_iret od_20_22 rfl hP
  · rw [if_neg hc3] at h
    refine ev_iload_n od_20_4 rfl ?_
    refine ev_aload_n od_20_5 rfl ?_
    refine ev_gf (v := .int (S 2 1)) og_20_6 oO_2 rfl ?_
    refine ev_icmp_ge (t := 21) od_20_9 (by decide) (fun hc2 => ?_) (fun hc2 => ?_)
    · rw [if_pos hc2] at h
      refine ev_iconst (v := (-1 : Int32)) od_20_21 (by decide) ?_
      cases h
      exact ev_iret od_20_22 rfl hP
    · rw [if_neg hc2] at h
      refine ev_aload_n od_20_12 rfl ?_
      refine ev_gf (v := .ref 3) og_20_13 oO_2 rfl ?_
      refine ev_iload_n od_20_16 rfl ?_
      obtain ⟨bq1, h⟩ := ov_ck_ok h
      refine ev_iald od_20_17 oA_3 (ov_ibk bq1) ?_
      refine ev_goto (t := 22) od_20_18 (by decide) ?_
      cases h
      exact ev_iret od_20_22 rfl hP
theorem R20 {L : Nat} {S : ov_S} {G : ov_L2} {x1 : Int32}  {out : Int32} (h : f20 S x1 = some out) : ov_R L 1 20 [.ref 2, .int x1] S G (some (.int out)) S G :=
  ov_Rof (t20  h ⟨rfl, rfl, rfl⟩)
-- 23 OE$Bits.has
def f23 (x0 : Int32) (x1 : Int32) : Option (Int32) :=
  (if x1 < 0 then some (0 : Int32) else (if (31 : Int32) ≤ x1 then some (0 : Int32) else (if ((x0 >>> (x1 &&& 31)) &&& (1 : Int32)) = 0 then some (0 : Int32) else some (1 : Int32))))
theorem t23 {L : Nat} {S : ov_S} {G : ov_L2} {x0 : Int32} {x1 : Int32} {P : Option Value → ov_S → ov_L2 → Prop}  {out : Int32} (h : f23 x0 x1 = some out) (hP : P (some (.int out)) S G) : ov_J L 0 23 0 [some (.int x0), some (.int x1)] [] S G P := by
  unfold f23 at h
  refine ev_iload_n od_23_0 rfl ?_
  refine ev_if_lt (t := 22) od_23_1 (by decide) (fun hc3 => ?_) (fun hc3 => ?_)
  · rw [if_pos hc3] at h
    refine ev_iconst (v := (0 : Int32)) od_23_22 (by decide) ?_
    cases h
    exact ev_zret od_23_23 rfl (by decide) hP
  · rw [if_neg hc3] at h
    refine ev_iload_n od_23_4 rfl ?_
    refine ev_bipush (v := (31 : Int32)) od_23_5 (by decide) ?_
    refine ev_icmp_ge (t := 22) od_23_7 (by decide) (fun hc2 => ?_) (fun hc2 => ?_)
    · rw [if_pos hc2] at h
      refine ev_iconst (v := (0 : Int32)) od_23_22 (by decide) ?_
      cases h
      exact ev_zret od_23_23 rfl (by decide) hP
    · rw [if_neg hc2] at h
      refine ev_iload_n od_23_10 rfl ?_
      refine ev_iload_n od_23_11 rfl ?_
      refine ev_ishr od_23_12 ?_
      refine ev_iconst (v := (1 : Int32)) od_23_13 (by decide) ?_
      refine ev_iand od_23_14 ?_
      refine ev_if_eq (t := 22) od_23_15 (by decide) (fun hc1 => ?_) (fun hc1 => ?_)
      · rw [if_pos hc1] at h
        refine ev_iconst (v := (0 : Int32)) od_23_22 (by decide) ?_
        cases h
        exact ev_zret od_23_23 rfl (by decide) hP
      · rw [if_neg hc1] at h
        refine ev_iconst (v := (1 : Int32)) od_23_18 (by decide) ?_
        refine ev_goto (t := 23) od_23_19 (by decide) ?_
        cases h
        exact ev_zret od_23_23 rfl (by decide) hP
theorem R23 {L : Nat} {S : ov_S} {G : ov_L2} {x0 : Int32} {x1 : Int32}  {out : Int32} (h : f23 x0 x1 = some out) : ov_R L 1 23 [.int x0, .int x1] S G (some (.int out)) S G :=
  ov_Rof (t23  h ⟨rfl, rfl, rfl⟩)
-- 24 OE$Cells.bit
def f24 (x0 : Int32) : Option (Int32) :=
  (if x0 < 0 then some (0 : Int32) else (if (18 : Int32) ≤ x0 then some (0 : Int32) else some ((1 : Int32) <<< (x0 &&& 31))))
theorem t24 {L : Nat} {S : ov_S} {G : ov_L2} {x0 : Int32} {P : Option Value → ov_S → ov_L2 → Prop}  {out : Int32} (h : f24 x0 = some out) (hP : P (some (.int out)) S G) : ov_J L 0 24 0 [some (.int x0)] [] S G P := by
  unfold f24 at h
  refine ev_iload_n od_24_0 rfl ?_
  refine ev_if_lt (t := 16) od_24_1 (by decide) (fun hc2 => ?_) (fun hc2 => ?_)
  · rw [if_pos hc2] at h
    refine ev_iconst (v := (0 : Int32)) od_24_16 (by decide) ?_
    cases h
    exact ev_iret od_24_17 rfl hP
  · rw [if_neg hc2] at h
    refine ev_iload_n od_24_4 rfl ?_
    refine ev_bipush (v := (18 : Int32)) od_24_5 (by decide) ?_
    refine ev_icmp_ge (t := 16) od_24_7 (by decide) (fun hc1 => ?_) (fun hc1 => ?_)
    · rw [if_pos hc1] at h
      refine ev_iconst (v := (0 : Int32)) od_24_16 (by decide) ?_
      cases h
      exact ev_iret od_24_17 rfl hP
    · rw [if_neg hc1] at h
      refine ev_iconst (v := (1 : Int32)) od_24_10 (by decide) ?_
      refine ev_iload_n od_24_11 rfl ?_
      refine ev_ishl od_24_12 ?_
      refine ev_goto (t := 17) od_24_13 (by decide) ?_
      cases h
      exact ev_iret od_24_17 rfl hP
theorem R24 {L : Nat} {S : ov_S} {G : ov_L2} {x0 : Int32}  {out : Int32} (h : f24 x0 = some out) : ov_R L 1 24 [.int x0] S G (some (.int out)) S G :=
  ov_Rof (t24  h ⟨rfl, rfl, rfl⟩)
-- 27 OE$Bits.with
def f27 (x0 : Int32) (x1 : Int32) : Option (Int32) :=
  (if x1 < 0 then some x0 else (if (31 : Int32) ≤ x1 then some x0 else some (x0 ||| ((1 : Int32) <<< (x1 &&& 31)))))
theorem t27 {L : Nat} {S : ov_S} {G : ov_L2} {x0 : Int32} {x1 : Int32} {P : Option Value → ov_S → ov_L2 → Prop}  {out : Int32} (h : f27 x0 x1 = some out) (hP : P (some (.int out)) S G) : ov_J L 0 27 0 [some (.int x0), some (.int x1)] [] S G P := by
  unfold f27 at h
  refine ev_iload_n od_27_0 rfl ?_
  refine ev_if_lt (t := 18) od_27_1 (by decide) (fun hc2 => ?_) (fun hc2 => ?_)
  · rw [if_pos hc2] at h
    refine ev_iload_n od_27_18 rfl ?_
    cases h
    exact ev_iret od_27_19 rfl hP
  · rw [if_neg hc2] at h
    refine ev_iload_n od_27_4 rfl ?_
    refine ev_bipush (v := (31 : Int32)) od_27_5 (by decide) ?_
    refine ev_icmp_ge (t := 18) od_27_7 (by decide) (fun hc1 => ?_) (fun hc1 => ?_)
    · rw [if_pos hc1] at h
      refine ev_iload_n od_27_18 rfl ?_
      cases h
      exact ev_iret od_27_19 rfl hP
    · rw [if_neg hc1] at h
      refine ev_iload_n od_27_10 rfl ?_
      refine ev_iconst (v := (1 : Int32)) od_27_11 (by decide) ?_
      refine ev_iload_n od_27_12 rfl ?_
      refine ev_ishl od_27_13 ?_
      refine ev_ior od_27_14 ?_
      refine ev_goto (t := 19) od_27_15 (by decide) ?_
      cases h
      exact ev_iret od_27_19 rfl hP
theorem R27 {L : Nat} {S : ov_S} {G : ov_L2} {x0 : Int32} {x1 : Int32}  {out : Int32} (h : f27 x0 x1 = some out) : ov_R L 1 27 [.int x0, .int x1] S G (some (.int out)) S G :=
  ov_Rof (t27  h ⟨rfl, rfl, rfl⟩)
-- 29 OE$Play.hasPart
def f29 (a : Nat) (S : ov_S) (x1 : Int32) : Option (Int32) :=
  (if x1 < 0 then some (0 : Int32) else (if (S a 2) ≤ x1 then some (0 : Int32) else some (1 : Int32)))
theorem t29 {L : Nat} {S : ov_S} {G : ov_L2} {a : Nat} {x1 : Int32} {P : Option Value → ov_S → ov_L2 → Prop} (ha : ov_Pl a) {out : Int32} (h : f29 a S x1 = some out) (hP : P (some (.int out)) S G) : ov_J L 0 29 0 [some (.ref a), some (.int x1)] [] S G P := by
  unfold f29 at h
  refine ev_iload_n od_29_0 rfl ?_
  refine ev_if_lt (t := 16) od_29_1 (by decide) (fun hc2 => ?_) (fun hc2 => ?_)
  · rw [if_pos hc2] at h
    refine ev_iconst (v := (0 : Int32)) od_29_16 (by decide) ?_
    cases h
    exact ev_zret od_29_17 rfl (by decide) hP
  · rw [if_neg hc2] at h
    refine ev_iload_n od_29_4 rfl ?_
    refine ev_aload_n od_29_5 rfl ?_
    refine ev_gf (v := .int (S a 2)) og_29_6 (pl_O ha) (pl_v2 ha) ?_
    refine ev_icmp_ge (t := 16) od_29_9 (by decide) (fun hc1 => ?_) (fun hc1 => ?_)
    · rw [if_pos hc1] at h
      refine ev_iconst (v := (0 : Int32)) od_29_16 (by decide) ?_
      cases h
      exact ev_zret od_29_17 rfl (by decide) hP
    · rw [if_neg hc1] at h
      refine ev_iconst (v := (1 : Int32)) od_29_12 (by decide) ?_
      refine ev_goto (t := 17) od_29_13 (by decide) ?_
      cases h
      exact ev_zret od_29_17 rfl (by decide) hP
theorem R29 {L : Nat} {S : ov_S} {G : ov_L2} {a : Nat} {x1 : Int32} (ha : ov_Pl a) {out : Int32} (h : f29 a S x1 = some out) : ov_R L 1 29 [.ref a, .int x1] S G (some (.int out)) S G :=
  ov_Rof (t29 ha h ⟨rfl, rfl, rfl⟩)
-- 31 OE$Acts.forget
def f31 (S : ov_S) : Option (ov_S) :=
  some (ov_up S 24 3 (0 : Int32))
theorem t31 {L : Nat} {S : ov_S} {G : ov_L2}  {P : Option Value → ov_S → ov_L2 → Prop}  {out : ov_S} (h : f31 S = some out) (hP : P none out G) : ov_J L 0 31 0 [some (.ref 24)] [] S G P := by
  unfold f31 at h
  refine ev_aload_n od_31_0 rfl ?_
  refine ev_iconst (v := (0 : Int32)) od_31_1 (by decide) ?_
  refine ev_pf op_31_2 oO_24 rfl rfl ?_
  cases h
  exact ev_vret od_31_5 rfl hP
theorem R31 {L : Nat} {S : ov_S} {G : ov_L2}   {out : ov_S} (h : f31 S = some out) : ov_R L 1 31 [.ref 24] S G none out G :=
  ov_Rof (t31  h ⟨rfl, rfl, rfl⟩)
-- 39 OE$Play.ghostParts
def f39 (a : Nat) (S : ov_S) : Option (Int32) :=
  some (S a 10)
theorem t39 {L : Nat} {S : ov_S} {G : ov_L2} {a : Nat} {P : Option Value → ov_S → ov_L2 → Prop} (ha : ov_Pl a) {out : Int32} (h : f39 a S = some out) (hP : P (some (.int out)) S G) : ov_J L 0 39 0 [some (.ref a)] [] S G P := by
  unfold f39 at h
  refine ev_aload_n od_39_0 rfl ?_
  refine ev_gf (v := .int (S a 10)) og_39_1 (pl_O ha) (pl_v10 ha) ?_
  cases h
  exact ev_iret od_39_4 rfl hP
theorem R39 {L : Nat} {S : ov_S} {G : ov_L2} {a : Nat} (ha : ov_Pl a) {out : Int32} (h : f39 a S = some out) : ov_R L 1 39 [.ref a] S G (some (.int out)) S G :=
  ov_Rof (t39 ha h ⟨rfl, rfl, rfl⟩)
-- 41 OE$Stage.saidLines
def f41 (a : Nat) (S : ov_S) : Option (Int32) :=
  some (S a 3)
theorem t41 {L : Nat} {S : ov_S} {G : ov_L2} {a : Nat} {P : Option Value → ov_S → ov_L2 → Prop} (ha : ov_St a) {out : Int32} (h : f41 a S = some out) (hP : P (some (.int out)) S G) : ov_J L 0 41 0 [some (.ref a)] [] S G P := by
  unfold f41 at h
  refine ev_aload_n od_41_0 rfl ?_
  refine ev_gf (v := .int (S a 3)) og_41_1 (st_O ha) (st_v3 ha) ?_
  cases h
  exact ev_iret od_41_4 rfl hP
theorem R41 {L : Nat} {S : ov_S} {G : ov_L2} {a : Nat} (ha : ov_St a) {out : Int32} (h : f41 a S = some out) : ov_R L 1 41 [.ref a] S G (some (.int out)) S G :=
  ov_Rof (t41 ha h ⟨rfl, rfl, rfl⟩)
-- 45 OE$Play.hasLine
def f45 (a : Nat) (S : ov_S) (x1 : Int32) : Option (Int32) :=
  (if x1 < 0 then some (0 : Int32) else (if (S a 3) ≤ x1 then some (0 : Int32) else some (1 : Int32)))
theorem t45 {L : Nat} {S : ov_S} {G : ov_L2} {a : Nat} {x1 : Int32} {P : Option Value → ov_S → ov_L2 → Prop} (ha : ov_Pl a) {out : Int32} (h : f45 a S x1 = some out) (hP : P (some (.int out)) S G) : ov_J L 0 45 0 [some (.ref a), some (.int x1)] [] S G P := by
  unfold f45 at h
  refine ev_iload_n od_45_0 rfl ?_
  refine ev_if_lt (t := 16) od_45_1 (by decide) (fun hc2 => ?_) (fun hc2 => ?_)
  · rw [if_pos hc2] at h
    refine ev_iconst (v := (0 : Int32)) od_45_16 (by decide) ?_
    cases h
    exact ev_zret od_45_17 rfl (by decide) hP
  · rw [if_neg hc2] at h
    refine ev_iload_n od_45_4 rfl ?_
    refine ev_aload_n od_45_5 rfl ?_
    refine ev_gf (v := .int (S a 3)) og_45_6 (pl_O ha) (pl_v3 ha) ?_
    refine ev_icmp_ge (t := 16) od_45_9 (by decide) (fun hc1 => ?_) (fun hc1 => ?_)
    · rw [if_pos hc1] at h
      refine ev_iconst (v := (0 : Int32)) od_45_16 (by decide) ?_
      cases h
      exact ev_zret od_45_17 rfl (by decide) hP
    · rw [if_neg hc1] at h
      refine ev_iconst (v := (1 : Int32)) od_45_12 (by decide) ?_
      refine ev_goto (t := 17) od_45_13 (by decide) ?_
      cases h
      exact ev_zret od_45_17 rfl (by decide) hP
theorem R45 {L : Nat} {S : ov_S} {G : ov_L2} {a : Nat} {x1 : Int32} (ha : ov_Pl a) {out : Int32} (h : f45 a S x1 = some out) : ov_R L 1 45 [.ref a, .int x1] S G (some (.int out)) S G :=
  ov_Rof (t45 ha h ⟨rfl, rfl, rfl⟩)
-- 49 OE$Cells.isCell
def f49 (x0 : Int32) : Option (Int32) :=
  (if x0 < 0 then some (0 : Int32) else (if (18 : Int32) ≤ x0 then some (0 : Int32) else some (1 : Int32)))
theorem t49 {L : Nat} {S : ov_S} {G : ov_L2} {x0 : Int32} {P : Option Value → ov_S → ov_L2 → Prop}  {out : Int32} (h : f49 x0 = some out) (hP : P (some (.int out)) S G) : ov_J L 0 49 0 [some (.int x0)] [] S G P := by
  unfold f49 at h
  refine ev_iload_n od_49_0 rfl ?_
  refine ev_if_lt (t := 14) od_49_1 (by decide) (fun hc2 => ?_) (fun hc2 => ?_)
  · rw [if_pos hc2] at h
    refine ev_iconst (v := (0 : Int32)) od_49_14 (by decide) ?_
    cases h
    exact ev_zret od_49_15 rfl (by decide) hP
  · rw [if_neg hc2] at h
    refine ev_iload_n od_49_4 rfl ?_
    refine ev_bipush (v := (18 : Int32)) od_49_5 (by decide) ?_
    refine ev_icmp_ge (t := 14) od_49_7 (by decide) (fun hc1 => ?_) (fun hc1 => ?_)
    · rw [if_pos hc1] at h
      refine ev_iconst (v := (0 : Int32)) od_49_14 (by decide) ?_
      cases h
      exact ev_zret od_49_15 rfl (by decide) hP
    · rw [if_neg hc1] at h
      refine ev_iconst (v := (1 : Int32)) od_49_10 (by decide) ?_
      refine ev_goto (t := 15) od_49_11 (by decide) ?_
      cases h
      exact ev_zret od_49_15 rfl (by decide) hP
theorem R49 {L : Nat} {S : ov_S} {G : ov_L2} {x0 : Int32}  {out : Int32} (h : f49 x0 = some out) : ov_R L 1 49 [.int x0] S G (some (.int out)) S G :=
  ov_Rof (t49  h ⟨rfl, rfl, rfl⟩)
-- 50 java/lang/Math.abs
def f50 (x0 : Int32) : Option (Int32) :=
  (if 0 ≤ x0 then some x0 else some (-x0))
theorem t50 {L : Nat} {S : ov_S} {G : ov_L2} {x0 : Int32} {P : Option Value → ov_S → ov_L2 → Prop}  {out : Int32} (h : f50 x0 = some out) (hP : P (some (.int out)) S G) : ov_J L 0 50 0 [some (.int x0)] [] S G P := by
  unfold f50 at h
  refine ev_iload_n od_50_0 rfl ?_
  refine ev_if_ge (t := 9) od_50_1 (by decide) (fun hc1 => ?_) (fun hc1 => ?_)
  · rw [if_pos hc1] at h
    refine ev_iload_n od_50_9 rfl ?_
    cases h
    exact ev_iret od_50_10 rfl hP
  · rw [if_neg hc1] at h
    refine ev_iload_n od_50_4 rfl ?_
    refine ev_ineg od_50_5 ?_
    refine ev_goto (t := 10) od_50_6 (by decide) ?_
    cases h
    exact ev_iret od_50_10 rfl hP
theorem R50 {L : Nat} {S : ov_S} {G : ov_L2} {x0 : Int32}  {out : Int32} (h : f50 x0 = some out) : ov_R L 1 50 [.int x0] S G (some (.int out)) S G :=
  ov_Rof (t50  h ⟨rfl, rfl, rfl⟩)
-- 51 java/lang/Integer.compare
def f51 (x0 : Int32) (x1 : Int32) : Option (Int32) :=
  (if x1 ≤ x0 then (if x0 = x1 then some (0 : Int32) else some (1 : Int32)) else some (-1 : Int32))
theorem t51 {L : Nat} {S : ov_S} {G : ov_L2} {x0 : Int32} {x1 : Int32} {P : Option Value → ov_S → ov_L2 → Prop}  {out : Int32} (h : f51 x0 x1 = some out) (hP : P (some (.int out)) S G) : ov_J L 0 51 0 [some (.int x0), some (.int x1)] [] S G P := by
  unfold f51 at h
  refine ev_iload_n od_51_0 rfl ?_
  refine ev_iload_n od_51_1 rfl ?_
  refine ev_icmp_ge (t := 9) od_51_2 (by decide) (fun hc2 => ?_) (fun hc2 => ?_)
  · rw [if_pos hc2] at h
    refine ev_iload_n od_51_9 rfl ?_
    refine ev_iload_n od_51_10 rfl ?_
    refine ev_icmp_ne (t := 18) od_51_11 (by decide) (fun hc1 => ?_) (fun hc1 => ?_)
    · rw [if_neg hc1] at h
      refine ev_iconst (v := (1 : Int32)) od_51_18 (by decide) ?_
      cases h
      exact ev_iret od_51_19 rfl hP
    · rw [if_pos hc1] at h
      refine ev_iconst (v := (0 : Int32)) od_51_14 (by decide) ?_
      refine ev_goto (t := 19) od_51_15 (by decide) ?_
      cases h
      exact ev_iret od_51_19 rfl hP
  · rw [if_neg hc2] at h
    refine ev_iconst (v := (-1 : Int32)) od_51_5 (by decide) ?_
    refine ev_goto (t := 19) od_51_6 (by decide) ?_
    cases h
    exact ev_iret od_51_19 rfl hP
theorem R51 {L : Nat} {S : ov_S} {G : ov_L2} {x0 : Int32} {x1 : Int32}  {out : Int32} (h : f51 x0 x1 = some out) : ov_R L 1 51 [.int x0, .int x1] S G (some (.int out)) S G :=
  ov_Rof (t51  h ⟨rfl, rfl, rfl⟩)
-- 52 java/lang/Math.max
def f52 (x0 : Int32) (x1 : Int32) : Option (Int32) :=
  (if x0 < x1 then some x1 else some x0)
theorem t52 {L : Nat} {S : ov_S} {G : ov_L2} {x0 : Int32} {x1 : Int32} {P : Option Value → ov_S → ov_L2 → Prop}  {out : Int32} (h : f52 x0 x1 = some out) (hP : P (some (.int out)) S G) : ov_J L 0 52 0 [some (.int x0), some (.int x1)] [] S G P := by
  unfold f52 at h
  refine ev_iload_n od_52_0 rfl ?_
  refine ev_iload_n od_52_1 rfl ?_
  refine ev_icmp_lt (t := 9) od_52_2 (by decide) (fun hc1 => ?_) (fun hc1 => ?_)
  · rw [if_pos hc1] at h
    refine ev_iload_n od_52_9 rfl ?_
    cases h
    exact ev_iret od_52_10 rfl hP
  · rw [if_neg hc1] at h
    refine ev_iload_n od_52_5 rfl ?_
    refine ev_goto (t := 10) od_52_6 (by decide) ?_
    cases h
    exact ev_iret od_52_10 rfl hP
theorem R52 {L : Nat} {S : ov_S} {G : ov_L2} {x0 : Int32} {x1 : Int32}  {out : Int32} (h : f52 x0 x1 = some out) : ov_R L 1 52 [.int x0, .int x1] S G (some (.int out)) S G :=
  ov_Rof (t52  h ⟨rfl, rfl, rfl⟩)
-- 54 OE$Stage.minuteNow
def f54 (a : Nat) (S : ov_S) : Option (Int32) :=
  some (S a 4)
theorem t54 {L : Nat} {S : ov_S} {G : ov_L2} {a : Nat} {P : Option Value → ov_S → ov_L2 → Prop} (ha : ov_St a) {out : Int32} (h : f54 a S = some out) (hP : P (some (.int out)) S G) : ov_J L 0 54 0 [some (.ref a)] [] S G P := by
  unfold f54 at h
  refine ev_aload_n od_54_0 rfl ?_
  refine ev_gf (v := .int (S a 4)) og_54_1 (st_O ha) (st_v4 ha) ?_
  cases h
  exact ev_iret od_54_4 rfl hP
theorem R54 {L : Nat} {S : ov_S} {G : ov_L2} {a : Nat} (ha : ov_St a) {out : Int32} (h : f54 a S = some out) : ov_R L 1 54 [.ref a] S G (some (.int out)) S G :=
  ov_Rof (t54 ha h ⟨rfl, rfl, rfl⟩)
-- 55 OE$Acts.size
def f55 (S : ov_S) : Option (Int32) :=
  some (S 24 3)
theorem t55 {L : Nat} {S : ov_S} {G : ov_L2}  {P : Option Value → ov_S → ov_L2 → Prop}  {out : Int32} (h : f55 S = some out) (hP : P (some (.int out)) S G) : ov_J L 0 55 0 [some (.ref 24)] [] S G P := by
  unfold f55 at h
  refine ev_aload_n od_55_0 rfl ?_
  refine ev_gf (v := .int (S 24 3)) og_55_1 oO_24 rfl ?_
  cases h
  exact ev_iret od_55_4 rfl hP
theorem R55 {L : Nat} {S : ov_S} {G : ov_L2}   {out : Int32} (h : f55 S = some out) : ov_R L 1 55 [.ref 24] S G (some (.int out)) S G :=
  ov_Rof (t55  h ⟨rfl, rfl, rfl⟩)
-- 56 OE$Trod.size
def f56 (S : ov_S) : Option (Int32) :=
  some (S 28 2)
theorem t56 {L : Nat} {S : ov_S} {G : ov_L2}  {P : Option Value → ov_S → ov_L2 → Prop}  {out : Int32} (h : f56 S = some out) (hP : P (some (.int out)) S G) : ov_J L 0 56 0 [some (.ref 28)] [] S G P := by
  unfold f56 at h
  refine ev_aload_n od_56_0 rfl ?_
  refine ev_gf (v := .int (S 28 2)) og_56_1 oO_28 rfl ?_
  cases h
  exact ev_iret od_56_4 rfl hP
theorem R56 {L : Nat} {S : ov_S} {G : ov_L2}   {out : Int32} (h : f56 S = some out) : ov_R L 1 56 [.ref 28] S G (some (.int out)) S G :=
  ov_Rof (t56  h ⟨rfl, rfl, rfl⟩)
-- 58 OE$Play.hasDoor
def f58 (a : Nat) (S : ov_S) (x1 : Int32) : Option (Int32) :=
  (if x1 < 0 then some (0 : Int32) else (if (S a 0) ≤ x1 then some (0 : Int32) else some (1 : Int32)))
theorem t58 {L : Nat} {S : ov_S} {G : ov_L2} {a : Nat} {x1 : Int32} {P : Option Value → ov_S → ov_L2 → Prop} (ha : ov_Pl a) {out : Int32} (h : f58 a S x1 = some out) (hP : P (some (.int out)) S G) : ov_J L 0 58 0 [some (.ref a), some (.int x1)] [] S G P := by
  unfold f58 at h
  refine ev_iload_n od_58_0 rfl ?_
  refine ev_if_lt (t := 16) od_58_1 (by decide) (fun hc2 => ?_) (fun hc2 => ?_)
  · rw [if_pos hc2] at h
    refine ev_iconst (v := (0 : Int32)) od_58_16 (by decide) ?_
    cases h
    exact ev_zret od_58_17 rfl (by decide) hP
  · rw [if_neg hc2] at h
    refine ev_iload_n od_58_4 rfl ?_
    refine ev_aload_n od_58_5 rfl ?_
    refine ev_gf (v := .int (S a 0)) og_58_6 (pl_O ha) (pl_v0 ha) ?_
    refine ev_icmp_ge (t := 16) od_58_9 (by decide) (fun hc1 => ?_) (fun hc1 => ?_)
    · rw [if_pos hc1] at h
      refine ev_iconst (v := (0 : Int32)) od_58_16 (by decide) ?_
      cases h
      exact ev_zret od_58_17 rfl (by decide) hP
    · rw [if_neg hc1] at h
      refine ev_iconst (v := (1 : Int32)) od_58_12 (by decide) ?_
      refine ev_goto (t := 17) od_58_13 (by decide) ?_
      cases h
      exact ev_zret od_58_17 rfl (by decide) hP
theorem R58 {L : Nat} {S : ov_S} {G : ov_L2} {a : Nat} {x1 : Int32} (ha : ov_Pl a) {out : Int32} (h : f58 a S x1 = some out) : ov_R L 1 58 [.ref a, .int x1] S G (some (.int out)) S G :=
  ov_Rof (t58 ha h ⟨rfl, rfl, rfl⟩)
-- 68 OE$Cells.nextRing
def f68 (x0 : Int32) (x1 : Int32) : Option (Int32) :=
  some ((((((x0 &&& (-4162 : Int32)) >>> ((1 : Int32) &&& 31)) ||| ((x0 &&& (-133153 : Int32)) <<< ((1 : Int32) &&& 31))) ||| ((x0 >>> ((6 : Int32) &&& 31)) ||| (x0 <<< ((6 : Int32) &&& 31)))) &&& x1) &&& (x0 ^^^ (-1 : Int32)))
theorem t68 {L : Nat} {S : ov_S} {G : ov_L2} {x0 : Int32} {x1 : Int32} {P : Option Value → ov_S → ov_L2 → Prop}  {out : Int32} (h : f68 x0 x1 = some out) (hP : P (some (.int out)) S G) : ov_J L 0 68 0 [some (.int x0), some (.int x1), none, none] [] S G P := by
  unfold f68 at h
  refine ev_iload_n od_68_0 rfl ?_
  refine ev_sipush (v := (-4162 : Int32)) od_68_1 (by decide) ?_
  refine ev_iand od_68_4 ?_
  refine ev_iconst (v := (1 : Int32)) od_68_5 (by decide) ?_
  refine ev_ishr od_68_6 ?_
  refine ev_iload_n od_68_7 rfl ?_
  obtain ⟨w1, hw1⟩ := ok_68_8
  refine ev_ldc od_68_8 hw1 ?_
  refine ev_iand od_68_10 ?_
  refine ev_iconst (v := (1 : Int32)) od_68_11 (by decide) ?_
  refine ev_ishl od_68_12 ?_
  refine ev_ior od_68_13 ?_
  refine ev_istore_n (lv1 := [some (.int x0), some (.int x1), some (.int (((x0 &&& (-4162 : Int32)) >>> ((1 : Int32) &&& 31)) ||| ((x0 &&& (-133153 : Int32)) <<< ((1 : Int32) &&& 31)))), none]) od_68_14 rfl rfl ?_
  refine ev_iload_n od_68_15 rfl ?_
  refine ev_bipush (v := (6 : Int32)) od_68_16 (by decide) ?_
  refine ev_ishr od_68_18 ?_
  refine ev_iload_n od_68_19 rfl ?_
  refine ev_bipush (v := (6 : Int32)) od_68_20 (by decide) ?_
  refine ev_ishl od_68_22 ?_
  refine ev_ior od_68_23 ?_
  refine ev_istore_n (lv1 := [some (.int x0), some (.int x1), some (.int (((x0 &&& (-4162 : Int32)) >>> ((1 : Int32) &&& 31)) ||| ((x0 &&& (-133153 : Int32)) <<< ((1 : Int32) &&& 31)))), some (.int ((x0 >>> ((6 : Int32) &&& 31)) ||| (x0 <<< ((6 : Int32) &&& 31))))]) od_68_24 rfl rfl ?_
  refine ev_iload_n od_68_25 rfl ?_
  refine ev_iload_n od_68_26 rfl ?_
  refine ev_ior od_68_27 ?_
  refine ev_iload_n od_68_28 rfl ?_
  refine ev_iand od_68_29 ?_
  refine ev_iload_n od_68_30 rfl ?_
  refine ev_iconst (v := (-1 : Int32)) od_68_31 (by decide) ?_
  refine ev_ixor od_68_32 ?_
  refine ev_iand od_68_33 ?_
  cases h
  exact ev_iret od_68_34 rfl hP
theorem R68 {L : Nat} {S : ov_S} {G : ov_L2} {x0 : Int32} {x1 : Int32}  {out : Int32} (h : f68 x0 x1 = some out) : ov_R L 1 68 [.int x0, .int x1] S G (some (.int out)) S G :=
  ov_Rof (t68  h ⟨rfl, rfl, rfl⟩)
-- 69 java/lang/Integer.bitCount
def f69 (x0 : Int32) : Option (Int32) :=
  some ((((((((x0 - ((((x0).toUInt32 >>> (((1 : Int32)).toUInt32 &&& Int32.toUInt32 31)).toInt32) &&& (1431655765 : Int32))) &&& (858993459 : Int32)) + (((((x0 - ((((x0).toUInt32 >>> (((1 : Int32)).toUInt32 &&& Int32.toUInt32 31)).toInt32) &&& (1431655765 : Int32)))).toUInt32 >>> (((2 : Int32)).toUInt32 &&& Int32.toUInt32 31)).toInt32) &&& (858993459 : Int32))) + ((((((x0 - ((((x0).toUInt32 >>> (((1 : Int32)).toUInt32 &&& Int32.toUInt32 31)).toInt32) &&& (1431655765 : Int32))) &&& (858993459 : Int32)) + (((((x0 - ((((x0).toUInt32 >>> (((1 : Int32)).toUInt32 &&& Int32.toUInt32 31)).toInt32) &&& (1431655765 : Int32)))).toUInt32 >>> (((2 : Int32)).toUInt32 &&& Int32.toUInt32 31)).toInt32) &&& (858993459 : Int32)))).toUInt32 >>> (((4 : Int32)).toUInt32 &&& Int32.toUInt32 31)).toInt32)) &&& (252645135 : Int32)) + ((((((((x0 - ((((x0).toUInt32 >>> (((1 : Int32)).toUInt32 &&& Int32.toUInt32 31)).toInt32) &&& (1431655765 : Int32))) &&& (858993459 : Int32)) + (((((x0 - ((((x0).toUInt32 >>> (((1 : Int32)).toUInt32 &&& Int32.toUInt32 31)).toInt32) &&& (1431655765 : Int32)))).toUInt32 >>> (((2 : Int32)).toUInt32 &&& Int32.toUInt32 31)).toInt32) &&& (858993459 : Int32))) + ((((((x0 - ((((x0).toUInt32 >>> (((1 : Int32)).toUInt32 &&& Int32.toUInt32 31)).toInt32) &&& (1431655765 : Int32))) &&& (858993459 : Int32)) + (((((x0 - ((((x0).toUInt32 >>> (((1 : Int32)).toUInt32 &&& Int32.toUInt32 31)).toInt32) &&& (1431655765 : Int32)))).toUInt32 >>> (((2 : Int32)).toUInt32 &&& Int32.toUInt32 31)).toInt32) &&& (858993459 : Int32)))).toUInt32 >>> (((4 : Int32)).toUInt32 &&& Int32.toUInt32 31)).toInt32)) &&& (252645135 : Int32))).toUInt32 >>> (((8 : Int32)).toUInt32 &&& Int32.toUInt32 31)).toInt32)) + (((((((((x0 - ((((x0).toUInt32 >>> (((1 : Int32)).toUInt32 &&& Int32.toUInt32 31)).toInt32) &&& (1431655765 : Int32))) &&& (858993459 : Int32)) + (((((x0 - ((((x0).toUInt32 >>> (((1 : Int32)).toUInt32 &&& Int32.toUInt32 31)).toInt32) &&& (1431655765 : Int32)))).toUInt32 >>> (((2 : Int32)).toUInt32 &&& Int32.toUInt32 31)).toInt32) &&& (858993459 : Int32))) + ((((((x0 - ((((x0).toUInt32 >>> (((1 : Int32)).toUInt32 &&& Int32.toUInt32 31)).toInt32) &&& (1431655765 : Int32))) &&& (858993459 : Int32)) + (((((x0 - ((((x0).toUInt32 >>> (((1 : Int32)).toUInt32 &&& Int32.toUInt32 31)).toInt32) &&& (1431655765 : Int32)))).toUInt32 >>> (((2 : Int32)).toUInt32 &&& Int32.toUInt32 31)).toInt32) &&& (858993459 : Int32)))).toUInt32 >>> (((4 : Int32)).toUInt32 &&& Int32.toUInt32 31)).toInt32)) &&& (252645135 : Int32)) + ((((((((x0 - ((((x0).toUInt32 >>> (((1 : Int32)).toUInt32 &&& Int32.toUInt32 31)).toInt32) &&& (1431655765 : Int32))) &&& (858993459 : Int32)) + (((((x0 - ((((x0).toUInt32 >>> (((1 : Int32)).toUInt32 &&& Int32.toUInt32 31)).toInt32) &&& (1431655765 : Int32)))).toUInt32 >>> (((2 : Int32)).toUInt32 &&& Int32.toUInt32 31)).toInt32) &&& (858993459 : Int32))) + ((((((x0 - ((((x0).toUInt32 >>> (((1 : Int32)).toUInt32 &&& Int32.toUInt32 31)).toInt32) &&& (1431655765 : Int32))) &&& (858993459 : Int32)) + (((((x0 - ((((x0).toUInt32 >>> (((1 : Int32)).toUInt32 &&& Int32.toUInt32 31)).toInt32) &&& (1431655765 : Int32)))).toUInt32 >>> (((2 : Int32)).toUInt32 &&& Int32.toUInt32 31)).toInt32) &&& (858993459 : Int32)))).toUInt32 >>> (((4 : Int32)).toUInt32 &&& Int32.toUInt32 31)).toInt32)) &&& (252645135 : Int32))).toUInt32 >>> (((8 : Int32)).toUInt32 &&& Int32.toUInt32 31)).toInt32))).toUInt32 >>> (((16 : Int32)).toUInt32 &&& Int32.toUInt32 31)).toInt32)) &&& (63 : Int32))
theorem t69 {L : Nat} {S : ov_S} {G : ov_L2} {x0 : Int32} {P : Option Value → ov_S → ov_L2 → Prop}  {out : Int32} (h : f69 x0 = some out) (hP : P (some (.int out)) S G) : ov_J L 0 69 0 [some (.int x0)] [] S G P := by
  unfold f69 at h
  refine ev_iload_n od_69_0 rfl ?_
  refine ev_iload_n od_69_1 rfl ?_
  refine ev_iconst (v := (1 : Int32)) od_69_2 (by decide) ?_
  refine ev_iushr od_69_3 ?_
  obtain ⟨w1, hw1⟩ := ok_69_4
  refine ev_ldc_w od_69_4 hw1 ?_
  refine ev_iand od_69_7 ?_
  refine ev_isub od_69_8 ?_
  refine ev_istore_n (lv1 := [some (.int (x0 - ((((x0).toUInt32 >>> (((1 : Int32)).toUInt32 &&& Int32.toUInt32 31)).toInt32) &&& (1431655765 : Int32))))]) od_69_9 rfl rfl ?_
  refine ev_iload_n od_69_10 rfl ?_
  obtain ⟨w2, hw2⟩ := ok_69_11
  refine ev_ldc_w od_69_11 hw2 ?_
  refine ev_iand od_69_14 ?_
  refine ev_iload_n od_69_15 rfl ?_
  refine ev_iconst (v := (2 : Int32)) od_69_16 (by decide) ?_
  refine ev_iushr od_69_17 ?_
  obtain ⟨w3, hw3⟩ := ok_69_18
  refine ev_ldc_w od_69_18 hw3 ?_
  refine ev_iand od_69_21 ?_
  refine ev_iadd od_69_22 ?_
  refine ev_istore_n (lv1 := [some (.int (((x0 - ((((x0).toUInt32 >>> (((1 : Int32)).toUInt32 &&& Int32.toUInt32 31)).toInt32) &&& (1431655765 : Int32))) &&& (858993459 : Int32)) + (((((x0 - ((((x0).toUInt32 >>> (((1 : Int32)).toUInt32 &&& Int32.toUInt32 31)).toInt32) &&& (1431655765 : Int32)))).toUInt32 >>> (((2 : Int32)).toUInt32 &&& Int32.toUInt32 31)).toInt32) &&& (858993459 : Int32))))]) od_69_23 rfl rfl ?_
  refine ev_iload_n od_69_24 rfl ?_
  refine ev_iload_n od_69_25 rfl ?_
  refine ev_iconst (v := (4 : Int32)) od_69_26 (by decide) ?_
  refine ev_iushr od_69_27 ?_
  refine ev_iadd od_69_28 ?_
  obtain ⟨w4, hw4⟩ := ok_69_29
  refine ev_ldc_w od_69_29 hw4 ?_
  refine ev_iand od_69_32 ?_
  refine ev_istore_n (lv1 := [some (.int (((((x0 - ((((x0).toUInt32 >>> (((1 : Int32)).toUInt32 &&& Int32.toUInt32 31)).toInt32) &&& (1431655765 : Int32))) &&& (858993459 : Int32)) + (((((x0 - ((((x0).toUInt32 >>> (((1 : Int32)).toUInt32 &&& Int32.toUInt32 31)).toInt32) &&& (1431655765 : Int32)))).toUInt32 >>> (((2 : Int32)).toUInt32 &&& Int32.toUInt32 31)).toInt32) &&& (858993459 : Int32))) + ((((((x0 - ((((x0).toUInt32 >>> (((1 : Int32)).toUInt32 &&& Int32.toUInt32 31)).toInt32) &&& (1431655765 : Int32))) &&& (858993459 : Int32)) + (((((x0 - ((((x0).toUInt32 >>> (((1 : Int32)).toUInt32 &&& Int32.toUInt32 31)).toInt32) &&& (1431655765 : Int32)))).toUInt32 >>> (((2 : Int32)).toUInt32 &&& Int32.toUInt32 31)).toInt32) &&& (858993459 : Int32)))).toUInt32 >>> (((4 : Int32)).toUInt32 &&& Int32.toUInt32 31)).toInt32)) &&& (252645135 : Int32)))]) od_69_33 rfl rfl ?_
  refine ev_iload_n od_69_34 rfl ?_
  refine ev_iload_n od_69_35 rfl ?_
  refine ev_bipush (v := (8 : Int32)) od_69_36 (by decide) ?_
  refine ev_iushr od_69_38 ?_
  refine ev_iadd od_69_39 ?_
  refine ev_istore_n (lv1 := [some (.int ((((((x0 - ((((x0).toUInt32 >>> (((1 : Int32)).toUInt32 &&& Int32.toUInt32 31)).toInt32) &&& (1431655765 : Int32))) &&& (858993459 : Int32)) + (((((x0 - ((((x0).toUInt32 >>> (((1 : Int32)).toUInt32 &&& Int32.toUInt32 31)).toInt32) &&& (1431655765 : Int32)))).toUInt32 >>> (((2 : Int32)).toUInt32 &&& Int32.toUInt32 31)).toInt32) &&& (858993459 : Int32))) + ((((((x0 - ((((x0).toUInt32 >>> (((1 : Int32)).toUInt32 &&& Int32.toUInt32 31)).toInt32) &&& (1431655765 : Int32))) &&& (858993459 : Int32)) + (((((x0 - ((((x0).toUInt32 >>> (((1 : Int32)).toUInt32 &&& Int32.toUInt32 31)).toInt32) &&& (1431655765 : Int32)))).toUInt32 >>> (((2 : Int32)).toUInt32 &&& Int32.toUInt32 31)).toInt32) &&& (858993459 : Int32)))).toUInt32 >>> (((4 : Int32)).toUInt32 &&& Int32.toUInt32 31)).toInt32)) &&& (252645135 : Int32)) + ((((((((x0 - ((((x0).toUInt32 >>> (((1 : Int32)).toUInt32 &&& Int32.toUInt32 31)).toInt32) &&& (1431655765 : Int32))) &&& (858993459 : Int32)) + (((((x0 - ((((x0).toUInt32 >>> (((1 : Int32)).toUInt32 &&& Int32.toUInt32 31)).toInt32) &&& (1431655765 : Int32)))).toUInt32 >>> (((2 : Int32)).toUInt32 &&& Int32.toUInt32 31)).toInt32) &&& (858993459 : Int32))) + ((((((x0 - ((((x0).toUInt32 >>> (((1 : Int32)).toUInt32 &&& Int32.toUInt32 31)).toInt32) &&& (1431655765 : Int32))) &&& (858993459 : Int32)) + (((((x0 - ((((x0).toUInt32 >>> (((1 : Int32)).toUInt32 &&& Int32.toUInt32 31)).toInt32) &&& (1431655765 : Int32)))).toUInt32 >>> (((2 : Int32)).toUInt32 &&& Int32.toUInt32 31)).toInt32) &&& (858993459 : Int32)))).toUInt32 >>> (((4 : Int32)).toUInt32 &&& Int32.toUInt32 31)).toInt32)) &&& (252645135 : Int32))).toUInt32 >>> (((8 : Int32)).toUInt32 &&& Int32.toUInt32 31)).toInt32)))]) od_69_40 rfl rfl ?_
  refine ev_iload_n od_69_41 rfl ?_
  refine ev_iload_n od_69_42 rfl ?_
  refine ev_bipush (v := (16 : Int32)) od_69_43 (by decide) ?_
  refine ev_iushr od_69_45 ?_
  refine ev_iadd od_69_46 ?_
  refine ev_istore_n (lv1 := [some (.int (((((((x0 - ((((x0).toUInt32 >>> (((1 : Int32)).toUInt32 &&& Int32.toUInt32 31)).toInt32) &&& (1431655765 : Int32))) &&& (858993459 : Int32)) + (((((x0 - ((((x0).toUInt32 >>> (((1 : Int32)).toUInt32 &&& Int32.toUInt32 31)).toInt32) &&& (1431655765 : Int32)))).toUInt32 >>> (((2 : Int32)).toUInt32 &&& Int32.toUInt32 31)).toInt32) &&& (858993459 : Int32))) + ((((((x0 - ((((x0).toUInt32 >>> (((1 : Int32)).toUInt32 &&& Int32.toUInt32 31)).toInt32) &&& (1431655765 : Int32))) &&& (858993459 : Int32)) + (((((x0 - ((((x0).toUInt32 >>> (((1 : Int32)).toUInt32 &&& Int32.toUInt32 31)).toInt32) &&& (1431655765 : Int32)))).toUInt32 >>> (((2 : Int32)).toUInt32 &&& Int32.toUInt32 31)).toInt32) &&& (858993459 : Int32)))).toUInt32 >>> (((4 : Int32)).toUInt32 &&& Int32.toUInt32 31)).toInt32)) &&& (252645135 : Int32)) + ((((((((x0 - ((((x0).toUInt32 >>> (((1 : Int32)).toUInt32 &&& Int32.toUInt32 31)).toInt32) &&& (1431655765 : Int32))) &&& (858993459 : Int32)) + (((((x0 - ((((x0).toUInt32 >>> (((1 : Int32)).toUInt32 &&& Int32.toUInt32 31)).toInt32) &&& (1431655765 : Int32)))).toUInt32 >>> (((2 : Int32)).toUInt32 &&& Int32.toUInt32 31)).toInt32) &&& (858993459 : Int32))) + ((((((x0 - ((((x0).toUInt32 >>> (((1 : Int32)).toUInt32 &&& Int32.toUInt32 31)).toInt32) &&& (1431655765 : Int32))) &&& (858993459 : Int32)) + (((((x0 - ((((x0).toUInt32 >>> (((1 : Int32)).toUInt32 &&& Int32.toUInt32 31)).toInt32) &&& (1431655765 : Int32)))).toUInt32 >>> (((2 : Int32)).toUInt32 &&& Int32.toUInt32 31)).toInt32) &&& (858993459 : Int32)))).toUInt32 >>> (((4 : Int32)).toUInt32 &&& Int32.toUInt32 31)).toInt32)) &&& (252645135 : Int32))).toUInt32 >>> (((8 : Int32)).toUInt32 &&& Int32.toUInt32 31)).toInt32)) + (((((((((x0 - ((((x0).toUInt32 >>> (((1 : Int32)).toUInt32 &&& Int32.toUInt32 31)).toInt32) &&& (1431655765 : Int32))) &&& (858993459 : Int32)) + (((((x0 - ((((x0).toUInt32 >>> (((1 : Int32)).toUInt32 &&& Int32.toUInt32 31)).toInt32) &&& (1431655765 : Int32)))).toUInt32 >>> (((2 : Int32)).toUInt32 &&& Int32.toUInt32 31)).toInt32) &&& (858993459 : Int32))) + ((((((x0 - ((((x0).toUInt32 >>> (((1 : Int32)).toUInt32 &&& Int32.toUInt32 31)).toInt32) &&& (1431655765 : Int32))) &&& (858993459 : Int32)) + (((((x0 - ((((x0).toUInt32 >>> (((1 : Int32)).toUInt32 &&& Int32.toUInt32 31)).toInt32) &&& (1431655765 : Int32)))).toUInt32 >>> (((2 : Int32)).toUInt32 &&& Int32.toUInt32 31)).toInt32) &&& (858993459 : Int32)))).toUInt32 >>> (((4 : Int32)).toUInt32 &&& Int32.toUInt32 31)).toInt32)) &&& (252645135 : Int32)) + ((((((((x0 - ((((x0).toUInt32 >>> (((1 : Int32)).toUInt32 &&& Int32.toUInt32 31)).toInt32) &&& (1431655765 : Int32))) &&& (858993459 : Int32)) + (((((x0 - ((((x0).toUInt32 >>> (((1 : Int32)).toUInt32 &&& Int32.toUInt32 31)).toInt32) &&& (1431655765 : Int32)))).toUInt32 >>> (((2 : Int32)).toUInt32 &&& Int32.toUInt32 31)).toInt32) &&& (858993459 : Int32))) + ((((((x0 - ((((x0).toUInt32 >>> (((1 : Int32)).toUInt32 &&& Int32.toUInt32 31)).toInt32) &&& (1431655765 : Int32))) &&& (858993459 : Int32)) + (((((x0 - ((((x0).toUInt32 >>> (((1 : Int32)).toUInt32 &&& Int32.toUInt32 31)).toInt32) &&& (1431655765 : Int32)))).toUInt32 >>> (((2 : Int32)).toUInt32 &&& Int32.toUInt32 31)).toInt32) &&& (858993459 : Int32)))).toUInt32 >>> (((4 : Int32)).toUInt32 &&& Int32.toUInt32 31)).toInt32)) &&& (252645135 : Int32))).toUInt32 >>> (((8 : Int32)).toUInt32 &&& Int32.toUInt32 31)).toInt32))).toUInt32 >>> (((16 : Int32)).toUInt32 &&& Int32.toUInt32 31)).toInt32)))]) od_69_47 rfl rfl ?_
  refine ev_iload_n od_69_48 rfl ?_
  refine ev_bipush (v := (63 : Int32)) od_69_49 (by decide) ?_
  refine ev_iand od_69_51 ?_
  cases h
  exact ev_iret od_69_52 rfl hP
theorem R69 {L : Nat} {S : ov_S} {G : ov_L2} {x0 : Int32}  {out : Int32} (h : f69 x0 = some out) : ov_R L 1 69 [.int x0] S G (some (.int out)) S G :=
  ov_Rof (t69  h ⟨rfl, rfl, rfl⟩)
-- 76 OE$Acts.dropFirst
def f76 (S : ov_S) : Option (ov_S) :=
  ov_ck (ov_cyb (1 : Int32) (0 : Int32) ((ov_up S 24 3 (13 : Int32)) 24 3) 14 14) (ov_ck (ov_cyb (1 : Int32) (0 : Int32) ((ov_cp (ov_up S 24 3 (13 : Int32)) 25 ((1 : Int32)).toNatClampNeg 25 ((0 : Int32)).toNatClampNeg (((ov_up S 24 3 (13 : Int32)) 24 3)).toNatClampNeg) 24 3) 14 14) (ov_ck (ov_cyb (1 : Int32) (0 : Int32) ((ov_cp (ov_cp (ov_up S 24 3 (13 : Int32)) 25 ((1 : Int32)).toNatClampNeg 25 ((0 : Int32)).toNatClampNeg (((ov_up S 24 3 (13 : Int32)) 24 3)).toNatClampNeg) 26 ((1 : Int32)).toNatClampNeg 26 ((0 : Int32)).toNatClampNeg (((ov_cp (ov_up S 24 3 (13 : Int32)) 25 ((1 : Int32)).toNatClampNeg 25 ((0 : Int32)).toNatClampNeg (((ov_up S 24 3 (13 : Int32)) 24 3)).toNatClampNeg) 24 3)).toNatClampNeg) 24 3) 14 14) (some (ov_cp (ov_cp (ov_cp (ov_up S 24 3 (13 : Int32)) 25 ((1 : Int32)).toNatClampNeg 25 ((0 : Int32)).toNatClampNeg (((ov_up S 24 3 (13 : Int32)) 24 3)).toNatClampNeg) 26 ((1 : Int32)).toNatClampNeg 26 ((0 : Int32)).toNatClampNeg (((ov_cp (ov_up S 24 3 (13 : Int32)) 25 ((1 : Int32)).toNatClampNeg 25 ((0 : Int32)).toNatClampNeg (((ov_up S 24 3 (13 : Int32)) 24 3)).toNatClampNeg) 24 3)).toNatClampNeg) 27 ((1 : Int32)).toNatClampNeg 27 ((0 : Int32)).toNatClampNeg (((ov_cp (ov_cp (ov_up S 24 3 (13 : Int32)) 25 ((1 : Int32)).toNatClampNeg 25 ((0 : Int32)).toNatClampNeg (((ov_up S 24 3 (13 : Int32)) 24 3)).toNatClampNeg) 26 ((1 : Int32)).toNatClampNeg 26 ((0 : Int32)).toNatClampNeg (((ov_cp (ov_up S 24 3 (13 : Int32)) 25 ((1 : Int32)).toNatClampNeg 25 ((0 : Int32)).toNatClampNeg (((ov_up S 24 3 (13 : Int32)) 24 3)).toNatClampNeg) 24 3)).toNatClampNeg) 24 3)).toNatClampNeg))))
theorem t76 {L : Nat} {S : ov_S} {G : ov_L2}  {P : Option Value → ov_S → ov_L2 → Prop}  {out : ov_S} (h : f76 S = some out) (hP : P none out G) : ov_J L 0 76 0 [some (.ref 24)] [] S G P := by
  unfold f76 at h
  refine ev_aload_n od_76_0 rfl ?_
  refine ev_bipush (v := (13 : Int32)) od_76_1 (by decide) ?_
  refine ev_pf op_76_3 oO_24 rfl rfl ?_
  refine ev_aload_n od_76_6 rfl ?_
  refine ev_gf (v := .ref 25) og_76_7 oO_24 rfl ?_
  refine ev_iconst (v := (1 : Int32)) od_76_10 (by decide) ?_
  refine ev_aload_n od_76_11 rfl ?_
  refine ev_gf (v := .ref 25) og_76_12 oO_24 rfl ?_
  refine ev_iconst (v := (0 : Int32)) od_76_15 (by decide) ?_
  refine ev_aload_n od_76_16 rfl ?_
  refine ev_gf (v := .int ((ov_up S 24 3 (13 : Int32)) 24 3)) og_76_17 oO_24 rfl ?_
  obtain ⟨bq1, h⟩ := ov_ck_ok h
  refine ev_cy oy_76_20 oA_25 oA_25 bq1 rfl ?_
  refine ev_aload_n od_76_23 rfl ?_
  refine ev_gf (v := .ref 26) og_76_24 oO_24 rfl ?_
  refine ev_iconst (v := (1 : Int32)) od_76_27 (by decide) ?_
  refine ev_aload_n od_76_28 rfl ?_
  refine ev_gf (v := .ref 26) og_76_29 oO_24 rfl ?_
  refine ev_iconst (v := (0 : Int32)) od_76_32 (by decide) ?_
  refine ev_aload_n od_76_33 rfl ?_
  refine ev_gf (v := .int ((ov_cp (ov_up S 24 3 (13 : Int32)) 25 ((1 : Int32)).toNatClampNeg 25 ((0 : Int32)).toNatClampNeg (((ov_up S 24 3 (13 : Int32)) 24 3)).toNatClampNeg) 24 3)) og_76_34 oO_24 rfl ?_
  obtain ⟨bq2, h⟩ := ov_ck_ok h
  refine ev_cy oy_76_37 oA_26 oA_26 bq2 rfl ?_
  refine ev_aload_n od_76_40 rfl ?_
  refine ev_gf (v := .ref 27) og_76_41 oO_24 rfl ?_
  refine ev_iconst (v := (1 : Int32)) od_76_44 (by decide) ?_
  refine ev_aload_n od_76_45 rfl ?_
  refine ev_gf (v := .ref 27) og_76_46 oO_24 rfl ?_
  refine ev_iconst (v := (0 : Int32)) od_76_49 (by decide) ?_
  refine ev_aload_n od_76_50 rfl ?_
  refine ev_gf (v := .int ((ov_cp (ov_cp (ov_up S 24 3 (13 : Int32)) 25 ((1 : Int32)).toNatClampNeg 25 ((0 : Int32)).toNatClampNeg (((ov_up S 24 3 (13 : Int32)) 24 3)).toNatClampNeg) 26 ((1 : Int32)).toNatClampNeg 26 ((0 : Int32)).toNatClampNeg (((ov_cp (ov_up S 24 3 (13 : Int32)) 25 ((1 : Int32)).toNatClampNeg 25 ((0 : Int32)).toNatClampNeg (((ov_up S 24 3 (13 : Int32)) 24 3)).toNatClampNeg) 24 3)).toNatClampNeg) 24 3)) og_76_51 oO_24 rfl ?_
  obtain ⟨bq3, h⟩ := ov_ck_ok h
  refine ev_cy oy_76_54 oA_27 oA_27 bq3 rfl ?_
  cases h
  exact ev_vret od_76_57 rfl hP
theorem R76 {L : Nat} {S : ov_S} {G : ov_L2}   {out : ov_S} (h : f76 S = some out) : ov_R L 1 76 [.ref 24] S G none out G :=
  ov_Rof (t76  h ⟨rfl, rfl, rfl⟩)
-- 86 OE$Acts.lastKind
def f86 (S : ov_S) : Option (Int32) :=
  (if (S 24 3) ≤ 0 then some (-9 : Int32) else ov_ck (ov_ibb ((S 24 3) - (1 : Int32)) 14) (some (S 25 (((S 24 3) - (1 : Int32))).toNatClampNeg)))
theorem t86 {L : Nat} {S : ov_S} {G : ov_L2}  {P : Option Value → ov_S → ov_L2 → Prop}  {out : Int32} (h : f86 S = some out) (hP : P (some (.int out)) S G) : ov_J L 0 86 0 [some (.ref 24)] [] S G P := by
  unfold f86 at h
  refine ev_aload_n od_86_0 rfl ?_
  refine ev_gf (v := .int (S 24 3)) og_86_1 oO_24 rfl ?_
  refine ev_if_le (t := 21) od_86_4 (by decide) (fun hc2 => ?_) (fun hc2 => ?_)
  · rw [if_pos hc2] at h
    refine ev_bipush (v := (-9 : Int32)) od_86_21 (by decide) ?_
    cases h
    exact ev_iret od_86_23 rfl hP
  · rw [if_neg hc2] at h
    refine ev_aload_n od_86_7 rfl ?_
    refine ev_gf (v := .ref 25) og_86_8 oO_24 rfl ?_
    refine ev_aload_n od_86_11 rfl ?_
    refine ev_gf (v := .int (S 24 3)) og_86_12 oO_24 rfl ?_
    refine ev_iconst (v := (1 : Int32)) od_86_15 (by decide) ?_
    refine ev_isub od_86_16 ?_
    obtain ⟨bq1, h⟩ := ov_ck_ok h
    refine ev_iald od_86_17 oA_25 (ov_ibk bq1) ?_
    refine ev_goto (t := 23) od_86_18 (by decide) ?_
    cases h
    exact ev_iret od_86_23 rfl hP
theorem R86 {L : Nat} {S : ov_S} {G : ov_L2}   {out : Int32} (h : f86 S = some out) : ov_R L 1 86 [.ref 24] S G (some (.int out)) S G :=
  ov_Rof (t86  h ⟨rfl, rfl, rfl⟩)
-- 87 OE$Acts.lastWho
def f87 (S : ov_S) : Option (Int32) :=
  (if (S 24 3) ≤ 0 then some (-9 : Int32) else ov_ck (ov_ibb ((S 24 3) - (1 : Int32)) 14) (some (S 26 (((S 24 3) - (1 : Int32))).toNatClampNeg)))
theorem t87 {L : Nat} {S : ov_S} {G : ov_L2}  {P : Option Value → ov_S → ov_L2 → Prop}  {out : Int32} (h : f87 S = some out) (hP : P (some (.int out)) S G) : ov_J L 0 87 0 [some (.ref 24)] [] S G P := by
  unfold f87 at h
  refine ev_aload_n od_87_0 rfl ?_
  refine ev_gf (v := .int (S 24 3)) og_87_1 oO_24 rfl ?_
  refine ev_if_le (t := 21) od_87_4 (by decide) (fun hc2 => ?_) (fun hc2 => ?_)
  · rw [if_pos hc2] at h
    refine ev_bipush (v := (-9 : Int32)) od_87_21 (by decide) ?_
    cases h
    exact ev_iret od_87_23 rfl hP
  · rw [if_neg hc2] at h
    refine ev_aload_n od_87_7 rfl ?_
    refine ev_gf (v := .ref 26) og_87_8 oO_24 rfl ?_
    refine ev_aload_n od_87_11 rfl ?_
    refine ev_gf (v := .int (S 24 3)) og_87_12 oO_24 rfl ?_
    refine ev_iconst (v := (1 : Int32)) od_87_15 (by decide) ?_
    refine ev_isub od_87_16 ?_
    obtain ⟨bq1, h⟩ := ov_ck_ok h
    refine ev_iald od_87_17 oA_26 (ov_ibk bq1) ?_
    refine ev_goto (t := 23) od_87_18 (by decide) ?_
    cases h
    exact ev_iret od_87_23 rfl hP
theorem R87 {L : Nat} {S : ov_S} {G : ov_L2}   {out : Int32} (h : f87 S = some out) : ov_R L 1 87 [.ref 24] S G (some (.int out)) S G :=
  ov_Rof (t87  h ⟨rfl, rfl, rfl⟩)
-- 88 OE$Acts.lastFrom
def f88 (S : ov_S) : Option (Int32) :=
  (if (S 24 3) ≤ 0 then some (-9 : Int32) else ov_ck (ov_ibb ((S 24 3) - (1 : Int32)) 14) (some (S 27 (((S 24 3) - (1 : Int32))).toNatClampNeg)))
theorem t88 {L : Nat} {S : ov_S} {G : ov_L2}  {P : Option Value → ov_S → ov_L2 → Prop}  {out : Int32} (h : f88 S = some out) (hP : P (some (.int out)) S G) : ov_J L 0 88 0 [some (.ref 24)] [] S G P := by
  unfold f88 at h
  refine ev_aload_n od_88_0 rfl ?_
  refine ev_gf (v := .int (S 24 3)) og_88_1 oO_24 rfl ?_
  refine ev_if_le (t := 21) od_88_4 (by decide) (fun hc2 => ?_) (fun hc2 => ?_)
  · rw [if_pos hc2] at h
    refine ev_bipush (v := (-9 : Int32)) od_88_21 (by decide) ?_
    cases h
    exact ev_iret od_88_23 rfl hP
  · rw [if_neg hc2] at h
    refine ev_aload_n od_88_7 rfl ?_
    refine ev_gf (v := .ref 27) og_88_8 oO_24 rfl ?_
    refine ev_aload_n od_88_11 rfl ?_
    refine ev_gf (v := .int (S 24 3)) og_88_12 oO_24 rfl ?_
    refine ev_iconst (v := (1 : Int32)) od_88_15 (by decide) ?_
    refine ev_isub od_88_16 ?_
    obtain ⟨bq1, h⟩ := ov_ck_ok h
    refine ev_iald od_88_17 oA_27 (ov_ibk bq1) ?_
    refine ev_goto (t := 23) od_88_18 (by decide) ?_
    cases h
    exact ev_iret od_88_23 rfl hP
theorem R88 {L : Nat} {S : ov_S} {G : ov_L2}   {out : Int32} (h : f88 S = some out) : ov_R L 1 88 [.ref 24] S G (some (.int out)) S G :=
  ov_Rof (t88  h ⟨rfl, rfl, rfl⟩)
-- 91 OE$Bits.without
def f91 (x0 : Int32) (x1 : Int32) : Option (Int32) :=
  (if x1 < 0 then some x0 else (if (31 : Int32) ≤ x1 then some x0 else some (x0 &&& (((1 : Int32) <<< (x1 &&& 31)) ^^^ (-1 : Int32)))))
theorem t91 {L : Nat} {S : ov_S} {G : ov_L2} {x0 : Int32} {x1 : Int32} {P : Option Value → ov_S → ov_L2 → Prop}  {out : Int32} (h : f91 x0 x1 = some out) (hP : P (some (.int out)) S G) : ov_J L 0 91 0 [some (.int x0), some (.int x1)] [] S G P := by
  unfold f91 at h
  refine ev_iload_n od_91_0 rfl ?_
  refine ev_if_lt (t := 20) od_91_1 (by decide) (fun hc2 => ?_) (fun hc2 => ?_)
  · rw [if_pos hc2] at h
    refine ev_iload_n od_91_20 rfl ?_
    cases h
    exact ev_iret od_91_21 rfl hP
  · rw [if_neg hc2] at h
    refine ev_iload_n od_91_4 rfl ?_
    refine ev_bipush (v := (31 : Int32)) od_91_5 (by decide) ?_
    refine ev_icmp_ge (t := 20) od_91_7 (by decide) (fun hc1 => ?_) (fun hc1 => ?_)
    · rw [if_pos hc1] at h
      refine ev_iload_n od_91_20 rfl ?_
      cases h
      exact ev_iret od_91_21 rfl hP
    · rw [if_neg hc1] at h
      refine ev_iload_n od_91_10 rfl ?_
      refine ev_iconst (v := (1 : Int32)) od_91_11 (by decide) ?_
      refine ev_iload_n od_91_12 rfl ?_
      refine ev_ishl od_91_13 ?_
      refine ev_iconst (v := (-1 : Int32)) od_91_14 (by decide) ?_
      refine ev_ixor od_91_15 ?_
      refine ev_iand od_91_16 ?_
      refine ev_goto (t := 21) od_91_17 (by decide) ?_
      cases h
      exact ev_iret od_91_21 rfl hP
theorem R91 {L : Nat} {S : ov_S} {G : ov_L2} {x0 : Int32} {x1 : Int32}  {out : Int32} (h : f91 x0 x1 = some out) : ov_R L 1 91 [.int x0, .int x1] S G (some (.int out)) S G :=
  ov_Rof (t91  h ⟨rfl, rfl, rfl⟩)
-- 92 OE$Acts.dropLast
def f92 (S : ov_S) : Option (ov_S) :=
  some (ov_up S 24 3 (if (0 : Int32) < ((S 24 3) - (1 : Int32)) then ((S 24 3) - (1 : Int32)) else (0 : Int32)))
theorem t92 {L : Nat} {S : ov_S} {G : ov_L2}  {P : Option Value → ov_S → ov_L2 → Prop}  {out : ov_S} (h : f92 S = some out) (hP : P none out G) : ov_J L 0 92 0 [some (.ref 24)] [] S G P := by
  unfold f92 at h
  refine ev_aload_n od_92_0 rfl ?_
  refine ev_iconst (v := (0 : Int32)) od_92_1 (by decide) ?_
  refine ev_aload_n od_92_2 rfl ?_
  refine ev_gf (v := .int (S 24 3)) og_92_3 oO_24 rfl ?_
  refine ev_iconst (v := (1 : Int32)) od_92_6 (by decide) ?_
  refine ev_isub od_92_7 ?_
  refine ev_mmax ox_92_8 rfl ?_
  refine ev_pf op_92_11 oO_24 rfl rfl ?_
  cases h
  exact ev_vret od_92_14 rfl hP
theorem R92 {L : Nat} {S : ov_S} {G : ov_L2}   {out : ov_S} (h : f92 S = some out) : ov_R L 1 92 [.ref 24] S G none out G :=
  ov_Rof (t92  h ⟨rfl, rfl, rfl⟩)
-- 97 OE$Stage.copy
def f97 (a : Nat) (b1 : Nat) (S : ov_S) : Option (ov_S) :=
  ov_ck (ov_cyb (0 : Int32) (0 : Int32) (6 : Int32) 6 6) (ov_ck (ov_cyb (0 : Int32) (0 : Int32) (4 : Int32) 4 4) (some (ov_up (ov_up (ov_cp (ov_cp S (b1 + 1) ((0 : Int32)).toNatClampNeg (a + 1) ((0 : Int32)).toNatClampNeg ((6 : Int32)).toNatClampNeg) (b1 + 2) ((0 : Int32)).toNatClampNeg (a + 2) ((0 : Int32)).toNatClampNeg ((4 : Int32)).toNatClampNeg) a 3 ((ov_cp (ov_cp S (b1 + 1) ((0 : Int32)).toNatClampNeg (a + 1) ((0 : Int32)).toNatClampNeg ((6 : Int32)).toNatClampNeg) (b1 + 2) ((0 : Int32)).toNatClampNeg (a + 2) ((0 : Int32)).toNatClampNeg ((4 : Int32)).toNatClampNeg) b1 3)) a 4 ((ov_up (ov_cp (ov_cp S (b1 + 1) ((0 : Int32)).toNatClampNeg (a + 1) ((0 : Int32)).toNatClampNeg ((6 : Int32)).toNatClampNeg) (b1 + 2) ((0 : Int32)).toNatClampNeg (a + 2) ((0 : Int32)).toNatClampNeg ((4 : Int32)).toNatClampNeg) a 3 ((ov_cp (ov_cp S (b1 + 1) ((0 : Int32)).toNatClampNeg (a + 1) ((0 : Int32)).toNatClampNeg ((6 : Int32)).toNatClampNeg) (b1 + 2) ((0 : Int32)).toNatClampNeg (a + 2) ((0 : Int32)).toNatClampNeg ((4 : Int32)).toNatClampNeg) b1 3)) b1 4))))
theorem t97 {L : Nat} {S : ov_S} {G : ov_L2} {a : Nat} {b1 : Nat} {P : Option Value → ov_S → ov_L2 → Prop} (ha : ov_St a) (hb1 : ov_St b1) {out : ov_S} (h : f97 a b1 S = some out) (hP : P none out G) : ov_J L 0 97 0 [some (.ref a), some (.ref b1)] [] S G P := by
  unfold f97 at h
  refine ev_aload_n od_97_0 rfl ?_
  refine ev_gf (v := .ref (b1 + 1)) og_97_1 (st_O hb1) (st_v1 hb1) ?_
  refine ev_iconst (v := (0 : Int32)) od_97_4 (by decide) ?_
  refine ev_aload_n od_97_5 rfl ?_
  refine ev_gf (v := .ref (a + 1)) og_97_6 (st_O ha) (st_v1 ha) ?_
  refine ev_iconst (v := (0 : Int32)) od_97_9 (by decide) ?_
  refine ev_bipush (v := (6 : Int32)) od_97_10 (by decide) ?_
  obtain ⟨bq1, h⟩ := ov_ck_ok h
  refine ev_cy oy_97_12 (st_A1 hb1) (st_A1 ha) (by rw [st_l1 hb1, st_l1 ha]; exact bq1) rfl ?_
  refine ev_aload_n od_97_15 rfl ?_
  refine ev_gf (v := .ref (b1 + 2)) og_97_16 (st_O hb1) (st_v2 hb1) ?_
  refine ev_iconst (v := (0 : Int32)) od_97_19 (by decide) ?_
  refine ev_aload_n od_97_20 rfl ?_
  refine ev_gf (v := .ref (a + 2)) og_97_21 (st_O ha) (st_v2 ha) ?_
  refine ev_iconst (v := (0 : Int32)) od_97_24 (by decide) ?_
  refine ev_iconst (v := (4 : Int32)) od_97_25 (by decide) ?_
  obtain ⟨bq2, h⟩ := ov_ck_ok h
  refine ev_cy oy_97_26 (st_A2 hb1) (st_A2 ha) (by rw [st_l2 hb1, st_l2 ha]; exact bq2) rfl ?_
  refine ev_aload_n od_97_29 rfl ?_
  refine ev_aload_n od_97_30 rfl ?_
  refine ev_gf (v := .int ((ov_cp (ov_cp S (b1 + 1) ((0 : Int32)).toNatClampNeg (a + 1) ((0 : Int32)).toNatClampNeg ((6 : Int32)).toNatClampNeg) (b1 + 2) ((0 : Int32)).toNatClampNeg (a + 2) ((0 : Int32)).toNatClampNeg ((4 : Int32)).toNatClampNeg) b1 3)) og_97_31 (st_O hb1) (st_v3 hb1) ?_
  refine ev_pf op_97_34 (st_O ha) (st_c3 ha) rfl ?_
  refine ev_aload_n od_97_37 rfl ?_
  refine ev_aload_n od_97_38 rfl ?_
  refine ev_gf (v := .int ((ov_up (ov_cp (ov_cp S (b1 + 1) ((0 : Int32)).toNatClampNeg (a + 1) ((0 : Int32)).toNatClampNeg ((6 : Int32)).toNatClampNeg) (b1 + 2) ((0 : Int32)).toNatClampNeg (a + 2) ((0 : Int32)).toNatClampNeg ((4 : Int32)).toNatClampNeg) a 3 ((ov_cp (ov_cp S (b1 + 1) ((0 : Int32)).toNatClampNeg (a + 1) ((0 : Int32)).toNatClampNeg ((6 : Int32)).toNatClampNeg) (b1 + 2) ((0 : Int32)).toNatClampNeg (a + 2) ((0 : Int32)).toNatClampNeg ((4 : Int32)).toNatClampNeg) b1 3)) b1 4)) og_97_39 (st_O hb1) (st_v4 hb1) ?_
  refine ev_pf op_97_42 (st_O ha) (st_c4 ha) rfl ?_
  cases h
  exact ev_vret od_97_45 rfl hP
theorem R97 {L : Nat} {S : ov_S} {G : ov_L2} {a : Nat} {b1 : Nat} (ha : ov_St a) (hb1 : ov_St b1) {out : ov_S} (h : f97 a b1 S = some out) : ov_R L 1 97 [.ref a, .ref b1] S G none out G :=
  ov_Rof (t97 ha hb1 h ⟨rfl, rfl, rfl⟩)
-- 108 OE$Orders.best
def f108 (S : ov_S) : Option (Int32) :=
  some (S 31 3)
theorem t108 {L : Nat} {S : ov_S} {G : ov_L2}  {P : Option Value → ov_S → ov_L2 → Prop}  {out : Int32} (h : f108 S = some out) (hP : P (some (.int out)) S G) : ov_J L 0 108 0 [some (.ref 31)] [] S G P := by
  unfold f108 at h
  refine ev_aload_n od_108_0 rfl ?_
  refine ev_gf (v := .int (S 31 3)) og_108_1 oO_31 rfl ?_
  cases h
  exact ev_iret od_108_4 rfl hP
theorem R108 {L : Nat} {S : ov_S} {G : ov_L2}   {out : Int32} (h : f108 S = some out) : ov_R L 1 108 [.ref 31] S G (some (.int out)) S G :=
  ov_Rof (t108  h ⟨rfl, rfl, rfl⟩)
-- 109 OE$Orders.most
def f109 (S : ov_S) : Option (Int32) :=
  some (S 31 2)
theorem t109 {L : Nat} {S : ov_S} {G : ov_L2}  {P : Option Value → ov_S → ov_L2 → Prop}  {out : Int32} (h : f109 S = some out) (hP : P (some (.int out)) S G) : ov_J L 0 109 0 [some (.ref 31)] [] S G P := by
  unfold f109 at h
  refine ev_aload_n od_109_0 rfl ?_
  refine ev_gf (v := .int (S 31 2)) og_109_1 oO_31 rfl ?_
  cases h
  exact ev_iret od_109_4 rfl hP
theorem R109 {L : Nat} {S : ov_S} {G : ov_L2}   {out : Int32} (h : f109 S = some out) : ov_R L 1 109 [.ref 31] S G (some (.int out)) S G :=
  ov_Rof (t109  h ⟨rfl, rfl, rfl⟩)
-- 115 OE$Fractions.power
def b115_5 (x0 : Int32) (x1 : Int32) (x2 : Int64) (x4 : Int32) : Option ((Int64 × Int32) ⊕ (Int64)) :=
  (if x1 ≤ x4 then some (.inr x2) else some (.inl ((x2 * (x0).toInt64), (x4 + (1 : Int32)))))
theorem bt115_5 {L : Nat} {S : ov_S} {G : ov_L2} {x0 : Int32} {x1 : Int32} {x2 : Int64} {x4 : Int32} {P : Option Value → ov_S → ov_L2 → Prop}  {out : (Int64 × Int32) ⊕ (Int64)} (h : b115_5 x0 x1 x2 x4 = some out) (hk : ov_sm (σ := Int64 × Int32) (ε := (Int64)) (fun s => ov_J L 0 115 5 [some (.int x0), some (.int x1), some (.long s.1), none, some (.int s.2)] [] S G P) (fun e => ov_J L 0 115 22 [none, none, some (.long e), none, none] [] S G P) out) : ov_J L 0 115 5 [some (.int x0), some (.int x1), some (.long x2), none, some (.int x4)] [] S G P := by
  unfold b115_5 at h
  refine ev_iload od_115_5 rfl ?_
  refine ev_iload_n od_115_7 rfl ?_
  refine ev_icmp_ge (t := 22) od_115_8 (by decide) (fun hc1 => ?_) (fun hc1 => ?_)
  · rw [if_pos hc1] at h
    cases h
    refine ev_fg (lv0 := [none, none, some (.long x2), none, none]) (ov_le_n (ov_le_n (ov_le_s (ov_le_n (ov_le_n (ov_le_e)))))) ?_
    exact hk
  · rw [if_neg hc1] at h
    refine ev_lload_n od_115_11 rfl ?_
    refine ev_iload_n od_115_12 rfl ?_
    refine ev_i2l od_115_13 ?_
    refine ev_lmul od_115_14 ?_
    refine ev_lstore_n (lv1 := [some (.int x0), some (.int x1), some (.long (x2 * (x0).toInt64)), none, some (.int x4)]) od_115_15 rfl rfl ?_
    refine ev_iinc (v := (x4 + (1 : Int32))) (lv1 := [some (.int x0), some (.int x1), some (.long (x2 * (x0).toInt64)), none, some (.int (x4 + (1 : Int32)))]) od_115_16 rfl rfl rfl ?_
    refine ev_goto (t := 5) od_115_19 (by decide) ?_
    cases h
    exact hk
def f115 (x0 : Int32) (x1 : Int32) : Option (Int64) :=
  ((ov_lp (fun s => b115_5 x0 x1 s.1 s.2) 2000 ((1 : Int64), (0 : Int32))).bind fun e2 => some e2)
theorem t115 {L : Nat} {S : ov_S} {G : ov_L2} {x0 : Int32} {x1 : Int32} {P : Option Value → ov_S → ov_L2 → Prop}  {out : Int64} (h : f115 x0 x1 = some out) (hP : P (some (.long out)) S G) : ov_J L 0 115 0 [some (.int x0), some (.int x1), none, none, none] [] S G P := by
  unfold f115 at h
  refine ev_lconst (v := (1 : Int64)) od_115_0 (by decide) ?_
  refine ev_lstore_n (lv1 := [some (.int x0), some (.int x1), some (.long (1 : Int64)), none, none]) od_115_1 rfl rfl ?_
  refine ev_iconst (v := (0 : Int32)) od_115_2 (by decide) ?_
  refine ev_istore (lv1 := [some (.int x0), some (.int x1), some (.long (1 : Int64)), none, some (.int (0 : Int32))]) od_115_3 rfl rfl ?_
  obtain ⟨e2, he2, h⟩ := ov_bd h
  try dsimp only at h
  refine ov_lp_S (body := (fun s => b115_5 x0 x1 s.1 s.2)) (head := (fun s => ov_J L 0 115 5 [some (.int x0), some (.int x1), some (.long s.1), none, some (.int s.2)] [] S G P)) (exit := (fun e => ov_J L 0 115 22 [none, none, some (.long e), none, none] [] S G P)) (fun s r hb hk => bt115_5  hb hk) 2000 ((1 : Int64), (0 : Int32)) e2 he2 ?_
  show ov_J L 0 115 22 [none, none, some (.long e2), none, none] [] S G P
  refine ev_lload_n od_115_22 rfl ?_
  cases h
  exact ev_lret od_115_23 rfl hP
theorem R115 {L : Nat} {S : ov_S} {G : ov_L2} {x0 : Int32} {x1 : Int32}  {out : Int64} (h : f115 x0 x1 = some out) : ov_R L 1 115 [.int x0, .int x1] S G (some (.long out)) S G :=
  ov_Rof (t115  h ⟨rfl, rfl, rfl⟩)
-- 116 OE.figuresAt
def b116_5 (x2 : Int32) (x3 : Int64) (x5 : Int32) : Option ((Int64 × Int32) ⊕ (Int64)) :=
  (if x2 ≤ x5 then some (.inr x3) else some (.inl ((x3 / (1000 : Int64)), (x5 + (1 : Int32)))))
theorem bt116_5 {L : Nat} {S : ov_S} {G : ov_L2} {x2 : Int32} {x3 : Int64} {x5 : Int32} {P : Option Value → ov_S → ov_L2 → Prop}  {out : (Int64 × Int32) ⊕ (Int64)} (h : b116_5 x2 x3 x5 = some out) (hk : ov_sm (σ := Int64 × Int32) (ε := (Int64)) (fun s => ov_J L 0 116 5 [none, none, some (.int x2), some (.long s.1), none, some (.int s.2)] [] S G P) (fun e => ov_J L 0 116 23 [none, none, none, some (.long e), none, none] [] S G P) out) : ov_J L 0 116 5 [none, none, some (.int x2), some (.long x3), none, some (.int x5)] [] S G P := by
  unfold b116_5 at h
  refine ev_iload od_116_5 rfl ?_
  refine ev_iload_n od_116_7 rfl ?_
  refine ev_icmp_ge (t := 23) od_116_8 (by decide) (fun hc2 => ?_) (fun hc2 => ?_)
  · rw [if_pos hc2] at h
    cases h
    refine ev_fg (lv0 := [none, none, none, some (.long x3), none, none]) (ov_le_n (ov_le_n (ov_le_n (ov_le_s (ov_le_n (ov_le_n (ov_le_e))))))) ?_
    exact hk
  · rw [if_neg hc2] at h
    refine ev_lload_n od_116_11 rfl ?_
    obtain ⟨w1, hw1⟩ := ok_116_12
    refine ev_ldc2_w od_116_12 hw1 ?_
    refine ev_ldiv od_116_15 (by decide) ?_
    refine ev_lstore_n (lv1 := [none, none, some (.int x2), some (.long (x3 / (1000 : Int64))), none, some (.int x5)]) od_116_16 rfl rfl ?_
    refine ev_iinc (v := (x5 + (1 : Int32))) (lv1 := [none, none, some (.int x2), some (.long (x3 / (1000 : Int64))), none, some (.int (x5 + (1 : Int32)))]) od_116_17 rfl rfl rfl ?_
    refine ev_goto (t := 5) od_116_20 (by decide) ?_
    cases h
    exact hk
def f116 (x0 : Int64) (x2 : Int32) : Option (Int32) :=
  ((ov_lp (fun s => b116_5 x2 s.1 s.2) 2000 (x0, (0 : Int32))).bind fun e3 => some ((e3 - e3 / (1000 : Int64) * (1000 : Int64))).toInt32)
theorem t116 {L : Nat} {S : ov_S} {G : ov_L2} {x0 : Int64} {x2 : Int32} {P : Option Value → ov_S → ov_L2 → Prop}  {out : Int32} (h : f116 x0 x2 = some out) (hP : P (some (.int out)) S G) : ov_J L 0 116 0 [some (.long x0), none, some (.int x2), none, none, none] [] S G P := by
  unfold f116 at h
  refine ev_lload_n od_116_0 rfl ?_
  refine ev_lstore_n (lv1 := [some (.long x0), none, some (.int x2), some (.long x0), none, none]) od_116_1 rfl rfl ?_
  refine ev_iconst (v := (0 : Int32)) od_116_2 (by decide) ?_
  refine ev_istore (lv1 := [some (.long x0), none, some (.int x2), some (.long x0), none, some (.int (0 : Int32))]) od_116_3 rfl rfl ?_
  obtain ⟨e3, he3, h⟩ := ov_bd h
  try dsimp only at h
  refine ev_fg (lv0 := [none, none, some (.int x2), some (.long x0), none, some (.int (0 : Int32))]) (ov_le_n (ov_le_n (ov_le_s (ov_le_s (ov_le_n (ov_le_s (ov_le_e))))))) ?_
  refine ov_lp_S (body := (fun s => b116_5 x2 s.1 s.2)) (head := (fun s => ov_J L 0 116 5 [none, none, some (.int x2), some (.long s.1), none, some (.int s.2)] [] S G P)) (exit := (fun e => ov_J L 0 116 23 [none, none, none, some (.long e), none, none] [] S G P)) (fun s r hb hk => bt116_5  hb hk) 2000 (x0, (0 : Int32)) e3 he3 ?_
  show ov_J L 0 116 23 [none, none, none, some (.long e3), none, none] [] S G P
  refine ev_lload_n od_116_23 rfl ?_
  obtain ⟨w4, hw4⟩ := ok_116_24
  refine ev_ldc2_w od_116_24 hw4 ?_
  refine ev_lrem od_116_27 (by decide) ?_
  refine ev_l2i od_116_28 ?_
  cases h
  exact ev_iret od_116_29 rfl hP
theorem R116 {L : Nat} {S : ov_S} {G : ov_L2} {x0 : Int64} {x2 : Int32}  {out : Int32} (h : f116 x0 x2 = some out) : ov_R L 1 116 [.long x0, .int x2] S G (some (.int out)) S G :=
  ov_Rof (t116  h ⟨rfl, rfl, rfl⟩)
-- 120 java/lang/Math.abs
def f120 (x0 : Int64) : Option (Int64) :=
  (if 0 ≤ (lg_cmp x0 (0 : Int64)) then some x0 else some (-x0))
theorem t120 {L : Nat} {S : ov_S} {G : ov_L2} {x0 : Int64} {P : Option Value → ov_S → ov_L2 → Prop}  {out : Int64} (h : f120 x0 = some out) (hP : P (some (.long out)) S G) : ov_J L 0 120 0 [some (.long x0), none] [] S G P := by
  unfold f120 at h
  refine ev_lload_n od_120_0 rfl ?_
  refine ev_lconst (v := (0 : Int64)) od_120_1 (by decide) ?_
  refine ev_lcmp od_120_2 ?_
  refine ev_if_ge (t := 11) od_120_3 (by decide) (fun hc1 => ?_) (fun hc1 => ?_)
  · rw [if_pos hc1] at h
    refine ev_lload_n od_120_11 rfl ?_
    cases h
    exact ev_lret od_120_12 rfl hP
  · rw [if_neg hc1] at h
    refine ev_lload_n od_120_6 rfl ?_
    refine ev_lneg od_120_7 ?_
    refine ev_goto (t := 12) od_120_8 (by decide) ?_
    cases h
    exact ev_lret od_120_12 rfl hP
theorem R120 {L : Nat} {S : ov_S} {G : ov_L2} {x0 : Int64}  {out : Int64} (h : f120 x0 = some out) : ov_R L 1 120 [.long x0] S G (some (.long out)) S G :=
  ov_Rof (t120  h ⟨rfl, rfl, rfl⟩)
-- 121 OE$Fractions.commonDivisor
def b121_9 (x4 : Int64) (x6 : Int64) (x8 : Int32) : Option ((Int64 × Int64 × Int32) ⊕ (Int64)) :=
  (if (1000 : Int32) ≤ x8 then some (.inr x4) else (if (lg_cmp x6 (0 : Int64)) = 0 then some (.inr x4) else ov_ck (ov_nzl x6) (some (.inl (x6, (x4 - x4 / x6 * x6), (x8 + (1 : Int32)))))))
theorem bt121_9 {L : Nat} {S : ov_S} {G : ov_L2} {x4 : Int64} {x6 : Int64} {x8 : Int32} {P : Option Value → ov_S → ov_L2 → Prop}  {out : (Int64 × Int64 × Int32) ⊕ (Int64)} (h : b121_9 x4 x6 x8 = some out) (hk : ov_sm (σ := Int64 × Int64 × Int32) (ε := (Int64)) (fun s => ov_J L 0 121 9 [none, none, none, none, some (.long s.1), none, some (.long s.2.1), none, some (.int s.2.2), none, none] [] S G P) (fun e => ov_J L 0 121 45 [none, none, none, none, some (.long e), none, none, none, none, none, none] [] S G P) out) : ov_J L 0 121 9 [none, none, none, none, some (.long x4), none, some (.long x6), none, some (.int x8), none, none] [] S G P := by
  unfold b121_9 at h
  refine ev_iload od_121_9 rfl ?_
  refine ev_sipush (v := (1000 : Int32)) od_121_11 (by decide) ?_
  refine ev_icmp_ge (t := 45) od_121_14 (by decide) (fun hc3 => ?_) (fun hc3 => ?_)
  · rw [if_pos hc3] at h
    cases h
    refine ev_fg (lv0 := [none, none, none, none, some (.long x4), none, none, none, none, none, none]) (ov_le_n (ov_le_n (ov_le_n (ov_le_n (ov_le_s (ov_le_n (ov_le_n (ov_le_n (ov_le_n (ov_le_n (ov_le_n (ov_le_e)))))))))))) ?_
    exact hk
  · rw [if_neg hc3] at h
    refine ev_lload od_121_17 rfl ?_
    refine ev_lconst (v := (0 : Int64)) od_121_19 (by decide) ?_
    refine ev_lcmp od_121_20 ?_
    refine ev_if_eq (t := 45) od_121_21 (by decide) (fun hc2 => ?_) (fun hc2 => ?_)
    · rw [if_pos hc2] at h
      cases h
      refine ev_fg (lv0 := [none, none, none, none, some (.long x4), none, none, none, none, none, none]) (ov_le_n (ov_le_n (ov_le_n (ov_le_n (ov_le_s (ov_le_n (ov_le_n (ov_le_n (ov_le_n (ov_le_n (ov_le_n (ov_le_e)))))))))))) ?_
      exact hk
    · rw [if_neg hc2] at h
      refine ev_lload od_121_24 rfl ?_
      refine ev_lload od_121_26 rfl ?_
      obtain ⟨bq1, h⟩ := ov_ck_ok h
      refine ev_lrem od_121_28 (ov_nzlk bq1) ?_
      refine ev_lstore (lv1 := [none, none, none, none, some (.long x4), none, some (.long x6), none, some (.int x8), some (.long (x4 - x4 / x6 * x6)), none]) od_121_29 rfl rfl ?_
      refine ev_lload od_121_31 rfl ?_
      refine ev_lstore (lv1 := [none, none, none, none, some (.long x6), none, some (.long x6), none, some (.int x8), some (.long (x4 - x4 / x6 * x6)), none]) od_121_33 rfl rfl ?_
      refine ev_lload od_121_35 rfl ?_
      refine ev_lstore (lv1 := [none, none, none, none, some (.long x6), none, some (.long (x4 - x4 / x6 * x6)), none, some (.int x8), some (.long (x4 - x4 / x6 * x6)), none]) od_121_37 rfl rfl ?_
      refine ev_iinc (v := (x8 + (1 : Int32))) (lv1 := [none, none, none, none, some (.long x6), none, some (.long (x4 - x4 / x6 * x6)), none, some (.int (x8 + (1 : Int32))), some (.long (x4 - x4 / x6 * x6)), none]) od_121_39 rfl rfl rfl ?_
      refine ev_goto (t := 9) od_121_42 (by decide) ?_
      cases h
      refine ev_fg (lv0 := [none, none, none, none, some (.long x6), none, some (.long (x4 - x4 / x6 * x6)), none, some (.int (x8 + (1 : Int32))), none, none]) (ov_le_n (ov_le_n (ov_le_n (ov_le_n (ov_le_s (ov_le_n (ov_le_s (ov_le_n (ov_le_s (ov_le_n (ov_le_n (ov_le_e)))))))))))) ?_
      exact hk
def f121 (x0 : Int64) (x2 : Int64) : Option (Int64) :=
  ((ov_lp (fun s => b121_9  s.1 s.2.1 s.2.2) 2000 (x0, x2, (0 : Int32))).bind fun e4 => some e4)
theorem t121 {L : Nat} {S : ov_S} {G : ov_L2} {x0 : Int64} {x2 : Int64} {P : Option Value → ov_S → ov_L2 → Prop}  {out : Int64} (h : f121 x0 x2 = some out) (hP : P (some (.long out)) S G) : ov_J L 0 121 0 [some (.long x0), none, some (.long x2), none, none, none, none, none, none, none, none] [] S G P := by
  unfold f121 at h
  refine ev_lload_n od_121_0 rfl ?_
  refine ev_lstore (lv1 := [some (.long x0), none, some (.long x2), none, some (.long x0), none, none, none, none, none, none]) od_121_1 rfl rfl ?_
  refine ev_lload_n od_121_3 rfl ?_
  refine ev_lstore (lv1 := [some (.long x0), none, some (.long x2), none, some (.long x0), none, some (.long x2), none, none, none, none]) od_121_4 rfl rfl ?_
  refine ev_iconst (v := (0 : Int32)) od_121_6 (by decide) ?_
  refine ev_istore (lv1 := [some (.long x0), none, some (.long x2), none, some (.long x0), none, some (.long x2), none, some (.int (0 : Int32)), none, none]) od_121_7 rfl rfl ?_
  obtain ⟨e4, he4, h⟩ := ov_bd h
  try dsimp only at h
  refine ev_fg (lv0 := [none, none, none, none, some (.long x0), none, some (.long x2), none, some (.int (0 : Int32)), none, none]) (ov_le_n (ov_le_n (ov_le_n (ov_le_n (ov_le_s (ov_le_n (ov_le_s (ov_le_n (ov_le_s (ov_le_n (ov_le_n (ov_le_e)))))))))))) ?_
  refine ov_lp_S (body := (fun s => b121_9  s.1 s.2.1 s.2.2)) (head := (fun s => ov_J L 0 121 9 [none, none, none, none, some (.long s.1), none, some (.long s.2.1), none, some (.int s.2.2), none, none] [] S G P)) (exit := (fun e => ov_J L 0 121 45 [none, none, none, none, some (.long e), none, none, none, none, none, none] [] S G P)) (fun s r hb hk => bt121_9  hb hk) 2000 (x0, x2, (0 : Int32)) e4 he4 ?_
  show ov_J L 0 121 45 [none, none, none, none, some (.long e4), none, none, none, none, none, none] [] S G P
  refine ev_lload od_121_45 rfl ?_
  cases h
  exact ev_lret od_121_47 rfl hP
theorem R121 {L : Nat} {S : ov_S} {G : ov_L2} {x0 : Int64} {x2 : Int64}  {out : Int64} (h : f121 x0 x2 = some out) : ov_R L 1 121 [.long x0, .long x2] S G (some (.long out)) S G :=
  ov_Rof (t121  h ⟨rfl, rfl, rfl⟩)
