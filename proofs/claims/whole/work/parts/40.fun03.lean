-- 28 OE$Play.takeLine
def f28 (a : Nat) (S : ov_S) (x1 : Int32) (x2 : Int32) : Option (Int32 × ov_S) :=
  (if (6 : Int32) ≤ (S a 3) then some ((0 : Int32), S) else (if (2 : Int32) ≤ (S a 2) then (f29 a S x1).bind fun y1 => (if y1 = 0 then some ((1 : Int32), S) else (f29 a S x2).bind fun y2 => (if y2 = 0 then some ((2 : Int32), S) else (if x2 = x1 then some ((2 : Int32), S) else ov_ck (ov_ibb (S a 3) 6) (ov_ck (ov_ibb ((ov_up S (a + 5) ((S a 3)).toNatClampNeg x1) a 3) 6) (some ((3 : Int32), (ov_up (ov_up (ov_up S (a + 5) ((S a 3)).toNatClampNeg x1) (a + 6) (((ov_up S (a + 5) ((S a 3)).toNatClampNeg x1) a 3)).toNatClampNeg x2) a 3 (((ov_up (ov_up S (a + 5) ((S a 3)).toNatClampNeg x1) (a + 6) (((ov_up S (a + 5) ((S a 3)).toNatClampNeg x1) a 3)).toNatClampNeg x2) a 3) + (1 : Int32))))))))) else some ((0 : Int32), S)))
theorem t28 {L : Nat} {S : ov_S} {G : ov_L2} {a : Nat} {x1 : Int32} {x2 : Int32} {P : Option Value → ov_S → ov_L2 → Prop} (ha : ov_Pl a) {out : Int32 × ov_S} (h : f28 a S x1 x2 = some out) (hP : P (some (.int out.1)) out.2 G) : ov_J L 1 28 0 [some (.ref a), some (.int x1), some (.int x2)] [] S G P := by
  unfold f28 at h
  refine ev_aload_n od_28_0 rfl ?_
  refine ev_gf (v := .int (S a 3)) og_28_1 (pl_O ha) (pl_v3 ha) ?_
  refine ev_bipush (v := (6 : Int32)) od_28_4 (by decide) ?_
  refine ev_icmp_ge (t := 17) od_28_6 (by decide) (fun hc9 => ?_) (fun hc9 => ?_)
  · rw [if_pos hc9] at h
    refine ev_iconst (v := (0 : Int32)) od_28_17 (by decide) ?_
    cases h
    exact ev_iret od_28_18 rfl hP
  · rw [if_neg hc9] at h
    refine ev_aload_n od_28_9 rfl ?_
    refine ev_gf (v := .int (S a 2)) og_28_10 (pl_O ha) (pl_v2 ha) ?_
    refine ev_iconst (v := (2 : Int32)) od_28_13 (by decide) ?_
    refine ev_icmp_ge (t := 19) od_28_14 (by decide) (fun hc8 => ?_) (fun hc8 => ?_)
    · rw [if_pos hc8] at h
      refine ev_aload_n od_28_19 rfl ?_
      refine ev_iload_n od_28_20 rfl ?_
      obtain ⟨y1, hy1, h⟩ := ov_bd h
      try dsimp only at h
      refine ev_cvi (y := 29) (n := 1) (a := a) (c := 2) (as := [.int x1]) (rest := []) (dc := 1) oc_28_21 rfl rfl rfl (pl_O ha) rfl rfl rfl rfl (by decide) (R29 ha hy1) ?_
      refine ev_if_ne (t := 29) od_28_24 (by decide) (fun hc7 => ?_) (fun hc7 => ?_)
      · rw [if_neg hc7] at h
        refine ev_aload_n od_28_29 rfl ?_
        refine ev_iload_n od_28_30 rfl ?_
        obtain ⟨y2, hy2, h⟩ := ov_bd h
        try dsimp only at h
        refine ev_cvi (y := 29) (n := 1) (a := a) (c := 2) (as := [.int x2]) (rest := []) (dc := 1) oc_28_31 rfl rfl rfl (pl_O ha) rfl rfl rfl rfl (by decide) (R29 ha hy2) ?_
        refine ev_if_eq (t := 42) od_28_34 (by decide) (fun hc6 => ?_) (fun hc6 => ?_)
        · rw [if_pos hc6] at h
          refine ev_iconst (v := (2 : Int32)) od_28_42 (by decide) ?_
          cases h
          exact ev_iret od_28_43 rfl hP
        · rw [if_neg hc6] at h
          refine ev_iload_n od_28_37 rfl ?_
          refine ev_iload_n od_28_38 rfl ?_
          refine ev_icmp_ne (t := 44) od_28_39 (by decide) (fun hc5 => ?_) (fun hc5 => ?_)
          · rw [if_neg hc5] at h
            refine ev_aload_n od_28_44 rfl ?_
            refine ev_gf (v := .ref (a + 5)) og_28_45 (pl_O ha) (pl_v8 ha) ?_
            refine ev_aload_n od_28_48 rfl ?_
            refine ev_gf (v := .int (S a 3)) og_28_49 (pl_O ha) (pl_v3 ha) ?_
            refine ev_iload_n od_28_52 rfl ?_
            obtain ⟨bq3, h⟩ := ov_ck_ok h
            refine ev_iast od_28_53 (pl_A5 ha) (pl_i5 ha bq3) ?_
            refine ev_aload_n od_28_54 rfl ?_
            refine ev_gf (v := .ref (a + 6)) og_28_55 (pl_O ha) (pl_v9 ha) ?_
            refine ev_aload_n od_28_58 rfl ?_
            refine ev_gf (v := .int ((ov_up S (a + 5) ((S a 3)).toNatClampNeg x1) a 3)) og_28_59 (pl_O ha) (pl_v3 ha) ?_
            refine ev_iload_n od_28_62 rfl ?_
            obtain ⟨bq4, h⟩ := ov_ck_ok h
            refine ev_iast od_28_63 (pl_A6 ha) (pl_i6 ha bq4) ?_
            refine ev_aload_n od_28_64 rfl ?_
            refine ev_dup od_28_65 rfl ?_
            refine ev_gf (v := .int ((ov_up (ov_up S (a + 5) ((S a 3)).toNatClampNeg x1) (a + 6) (((ov_up S (a + 5) ((S a 3)).toNatClampNeg x1) a 3)).toNatClampNeg x2) a 3)) og_28_66 (pl_O ha) (pl_v3 ha) ?_
            refine ev_iconst (v := (1 : Int32)) od_28_69 (by decide) ?_
            refine ev_iadd od_28_70 ?_
            refine ev_pf op_28_71 (pl_O ha) (pl_c3 ha) rfl ?_
            refine ev_iconst (v := (3 : Int32)) od_28_74 (by decide) ?_
            cases h
            exact ev_iret od_28_75 rfl hP
          · rw [if_pos hc5] at h
            refine ev_iconst (v := (2 : Int32)) od_28_42 (by decide) ?_
            cases h
            exact ev_iret od_28_43 rfl hP
      · rw [if_pos hc7] at h
        refine ev_iconst (v := (1 : Int32)) od_28_27 (by decide) ?_
        cases h
        exact ev_iret od_28_28 rfl hP
    · rw [if_neg hc8] at h
      refine ev_iconst (v := (0 : Int32)) od_28_17 (by decide) ?_
      cases h
      exact ev_iret od_28_18 rfl hP
theorem R28 {L : Nat} {S : ov_S} {G : ov_L2} {a : Nat} {x1 : Int32} {x2 : Int32} (ha : ov_Pl a) {out : Int32 × ov_S} (h : f28 a S x1 x2 = some out) : ov_R L 2 28 [.ref a, .int x1, .int x2] S G (some (.int out.1)) out.2 G :=
  ov_Rof (t28 ha h ⟨rfl, rfl, rfl⟩)
-- 35 OE$Stage.cellOf
def f35 (a : Nat) (S : ov_S) (x1 : Int32) : Option (Int32) :=
  (f29 4 S x1).bind fun y1 => (if y1 = 0 then some (-9 : Int32) else ov_ck (ov_ibb x1 6) (some (S (a + 1) (x1).toNatClampNeg)))
theorem t35 {L : Nat} {S : ov_S} {G : ov_L2} {a : Nat} {x1 : Int32} {P : Option Value → ov_S → ov_L2 → Prop} (ha : ov_St a) {out : Int32} (h : f35 a S x1 = some out) (hP : P (some (.int out)) S G) : ov_J L 1 35 0 [some (.ref a), some (.int x1)] [] S G P := by
  unfold f35 at h
  refine ev_aload_n od_35_0 rfl ?_
  refine ev_gf (v := .ref 4) og_35_1 (st_O ha) (st_v0 ha) ?_
  refine ev_iload_n od_35_4 rfl ?_
  obtain ⟨y1, hy1, h⟩ := ov_bd h
  try dsimp only at h
  refine ev_cvi (y := 29) (n := 1) (a := 4) (c := 2) (as := [.int x1]) (rest := []) (dc := 1) oc_35_5 rfl rfl rfl oO_4 rfl rfl rfl rfl (by decide) (R29 oP_4 hy1) ?_
  refine ev_if_eq (t := 20) od_35_8 (by decide) (fun hc3 => ?_) (fun hc3 => ?_)
  · rw [if_pos hc3] at h
    refine ev_bipush (v := (-9 : Int32)) od_35_20 (by decide) ?_
    cases h
    exact ev_iret od_35_22 rfl hP
  · rw [if_neg hc3] at h
    refine ev_aload_n od_35_11 rfl ?_
    refine ev_gf (v := .ref (a + 1)) og_35_12 (st_O ha) (st_v1 ha) ?_
    refine ev_iload_n od_35_15 rfl ?_
    obtain ⟨bq2, h⟩ := ov_ck_ok h
    refine ev_iald od_35_16 (st_A1 ha) (st_i1 ha bq2) ?_
    refine ev_goto (t := 22) od_35_17 (by decide) ?_
    cases h
    exact ev_iret od_35_22 rfl hP
theorem R35 {L : Nat} {S : ov_S} {G : ov_L2} {a : Nat} {x1 : Int32} (ha : ov_St a) {out : Int32} (h : f35 a S x1 = some out) : ov_R L 2 35 [.ref a, .int x1] S G (some (.int out)) S G :=
  ov_Rof (t35 ha h ⟨rfl, rfl, rfl⟩)
-- 40 OE$Stage.cellsOf
def f40_32_4 (a : Nat) (S : ov_S) (x1 : Int32) (x3 : Int32) (s0 : Int32) (s1 : Int32) : Option ((Int32 × Int32) ⊕ (Int32)) :=
  some (.inl ((s1 ||| s0), (x3 + (1 : Int32))))
theorem t40_32_4 {L : Nat} {S : ov_S} {G : ov_L2} {a : Nat} {x1 : Int32} {x3 : Int32} {s0 : Int32} {s1 : Int32} {P : Option Value → ov_S → ov_L2 → Prop} (ha : ov_St a) {out : (Int32 × Int32) ⊕ (Int32)} (h : f40_32_4 a S x1 x3 s0 s1 = some out) (hk : ov_sm (σ := Int32 × Int32) (ε := (Int32)) (fun s => ov_J L 1 40 4 [some (.ref a), some (.int x1), some (.int s.1), some (.int s.2)] [] S G P) (fun e => ov_J L 1 40 40 [none, none, some (.int e), none] [] S G P) out) : ov_J L 1 40 32 [some (.ref a), some (.int x1), none, some (.int x3)] [.int s0, .int s1] S G P := by
  unfold f40_32_4 at h
  refine ev_ior od_40_32 ?_
  refine ev_istore_n (lv1 := [some (.ref a), some (.int x1), some (.int (s1 ||| s0)), some (.int x3)]) od_40_33 rfl rfl ?_
  refine ev_iinc (v := (x3 + (1 : Int32))) (lv1 := [some (.ref a), some (.int x1), some (.int (s1 ||| s0)), some (.int (x3 + (1 : Int32)))]) od_40_34 rfl rfl rfl ?_
  refine ev_goto (t := 4) od_40_37 (by decide) ?_
  cases h
  exact hk
def b40_4 (a : Nat) (S : ov_S) (x1 : Int32) (x2 : Int32) (x3 : Int32) : Option ((Int32 × Int32) ⊕ (Int32)) :=
  (if (6 : Int32) ≤ x3 then some (.inr x2) else (f23 x1 x3).bind fun y1 => (if y1 = 0 then f40_32_4 a S x1 x3 (0 : Int32) x2 else ov_ck (ov_ibb x3 6) ((f24 (S (a + 1) (x3).toNatClampNeg)).bind fun y3 => f40_32_4 a S x1 x3 y3 x2)))
theorem bt40_4 {L : Nat} {S : ov_S} {G : ov_L2} {a : Nat} {x1 : Int32} {x2 : Int32} {x3 : Int32} {P : Option Value → ov_S → ov_L2 → Prop} (ha : ov_St a) {out : (Int32 × Int32) ⊕ (Int32)} (h : b40_4 a S x1 x2 x3 = some out) (hk : ov_sm (σ := Int32 × Int32) (ε := (Int32)) (fun s => ov_J L 1 40 4 [some (.ref a), some (.int x1), some (.int s.1), some (.int s.2)] [] S G P) (fun e => ov_J L 1 40 40 [none, none, some (.int e), none] [] S G P) out) : ov_J L 1 40 4 [some (.ref a), some (.int x1), some (.int x2), some (.int x3)] [] S G P := by
  unfold b40_4 at h
  refine ev_iload_n od_40_4 rfl ?_
  refine ev_bipush (v := (6 : Int32)) od_40_5 (by decide) ?_
  refine ev_icmp_ge (t := 40) od_40_7 (by decide) (fun hc5 => ?_) (fun hc5 => ?_)
  · rw [if_pos hc5] at h
    cases h
    refine ev_fg (lv0 := [none, none, some (.int x2), none]) (ov_le_n (ov_le_n (ov_le_s (ov_le_n (ov_le_e))))) ?_
    exact hk
  · rw [if_neg hc5] at h
    refine ev_iload_n od_40_10 rfl ?_
    refine ev_iload_n od_40_11 rfl ?_
    refine ev_iload_n od_40_12 rfl ?_
    obtain ⟨y1, hy1, h⟩ := ov_bd h
    try dsimp only at h
    refine ev_csi (y := 23) (n := 2) (as := [.int x1, .int x3]) (rest := [.int x2]) (dc := 1) oc_40_13 rfl rfl rfl rfl rfl (by decide) (R23  hy1) ?_
    refine ev_if_eq (t := 31) od_40_16 (by decide) (fun hc4 => ?_) (fun hc4 => ?_)
    · rw [if_pos hc4] at h
      refine ev_iconst (v := (0 : Int32)) od_40_31 (by decide) ?_
      refine ev_fg (lv0 := [some (.ref a), some (.int x1), none, some (.int x3)]) (ov_le_s (ov_le_s (ov_le_n (ov_le_s (ov_le_e))))) ?_
      exact t40_32_4 ha h hk
    · rw [if_neg hc4] at h
      refine ev_aload_n od_40_19 rfl ?_
      refine ev_gf (v := .ref (a + 1)) og_40_20 (st_O ha) (st_v1 ha) ?_
      refine ev_iload_n od_40_23 rfl ?_
      obtain ⟨bq2, h⟩ := ov_ck_ok h
      refine ev_iald od_40_24 (st_A1 ha) (st_i1 ha bq2) ?_
      obtain ⟨y3, hy3, h⟩ := ov_bd h
      try dsimp only at h
      refine ev_csi (y := 24) (n := 1) (as := [.int (S (a + 1) (x3).toNatClampNeg)]) (rest := [.int x2]) (dc := 1) oc_40_25 rfl rfl rfl rfl rfl (by decide) (R24  hy3) ?_
      refine ev_goto (t := 32) od_40_28 (by decide) ?_
      refine ev_fg (lv0 := [some (.ref a), some (.int x1), none, some (.int x3)]) (ov_le_s (ov_le_s (ov_le_n (ov_le_s (ov_le_e))))) ?_
      exact t40_32_4 ha h hk
def f40 (a : Nat) (S : ov_S) (x1 : Int32) : Option (Int32) :=
  ((ov_lp (fun s => b40_4 a S x1 s.1 s.2) 2000 ((0 : Int32), (0 : Int32))).bind fun e6 => some e6)
theorem t40 {L : Nat} {S : ov_S} {G : ov_L2} {a : Nat} {x1 : Int32} {P : Option Value → ov_S → ov_L2 → Prop} (ha : ov_St a) {out : Int32} (h : f40 a S x1 = some out) (hP : P (some (.int out)) S G) : ov_J L 1 40 0 [some (.ref a), some (.int x1), none, none] [] S G P := by
  unfold f40 at h
  refine ev_iconst (v := (0 : Int32)) od_40_0 (by decide) ?_
  refine ev_istore_n (lv1 := [some (.ref a), some (.int x1), some (.int (0 : Int32)), none]) od_40_1 rfl rfl ?_
  refine ev_iconst (v := (0 : Int32)) od_40_2 (by decide) ?_
  refine ev_istore_n (lv1 := [some (.ref a), some (.int x1), some (.int (0 : Int32)), some (.int (0 : Int32))]) od_40_3 rfl rfl ?_
  obtain ⟨e6, he6, h⟩ := ov_bd h
  try dsimp only at h
  refine ov_lp_S (body := (fun s => b40_4 a S x1 s.1 s.2)) (head := (fun s => ov_J L 1 40 4 [some (.ref a), some (.int x1), some (.int s.1), some (.int s.2)] [] S G P)) (exit := (fun e => ov_J L 1 40 40 [none, none, some (.int e), none] [] S G P)) (fun s r hb hk => bt40_4 ha hb hk) 2000 ((0 : Int32), (0 : Int32)) e6 he6 ?_
  show ov_J L 1 40 40 [none, none, some (.int e6), none] [] S G P
  refine ev_iload_n od_40_40 rfl ?_
  cases h
  exact ev_iret od_40_41 rfl hP
theorem R40 {L : Nat} {S : ov_S} {G : ov_L2} {a : Nat} {x1 : Int32} (ha : ov_St a) {out : Int32} (h : f40 a S x1 = some out) : ov_R L 2 40 [.ref a, .int x1] S G (some (.int out)) S G :=
  ov_Rof (t40 ha h ⟨rfl, rfl, rfl⟩)
-- 43 OE$Stage.stoolCells
def b43_4 (a : Nat) (S : ov_S) (x1 : Int32) (x2 : Int32) : Option ((Int32 × Int32) ⊕ (Int32)) :=
  (if (4 : Int32) ≤ x2 then some (.inr x1) else ov_ck (ov_ibb x2 4) ((f24 (S (a + 2) (x2).toNatClampNeg)).bind fun y2 => some (.inl ((x1 ||| y2), (x2 + (1 : Int32))))))
theorem bt43_4 {L : Nat} {S : ov_S} {G : ov_L2} {a : Nat} {x1 : Int32} {x2 : Int32} {P : Option Value → ov_S → ov_L2 → Prop} (ha : ov_St a) {out : (Int32 × Int32) ⊕ (Int32)} (h : b43_4 a S x1 x2 = some out) (hk : ov_sm (σ := Int32 × Int32) (ε := (Int32)) (fun s => ov_J L 1 43 4 [some (.ref a), some (.int s.1), some (.int s.2)] [] S G P) (fun e => ov_J L 1 43 27 [none, some (.int e), none] [] S G P) out) : ov_J L 1 43 4 [some (.ref a), some (.int x1), some (.int x2)] [] S G P := by
  unfold b43_4 at h
  refine ev_iload_n od_43_4 rfl ?_
  refine ev_iconst (v := (4 : Int32)) od_43_5 (by decide) ?_
  refine ev_icmp_ge (t := 27) od_43_6 (by decide) (fun hc3 => ?_) (fun hc3 => ?_)
  · rw [if_pos hc3] at h
    cases h
    refine ev_fg (lv0 := [none, some (.int x1), none]) (ov_le_n (ov_le_s (ov_le_n (ov_le_e)))) ?_
    exact hk
  · rw [if_neg hc3] at h
    refine ev_iload_n od_43_9 rfl ?_
    refine ev_aload_n od_43_10 rfl ?_
    refine ev_gf (v := .ref (a + 2)) og_43_11 (st_O ha) (st_v2 ha) ?_
    refine ev_iload_n od_43_14 rfl ?_
    obtain ⟨bq1, h⟩ := ov_ck_ok h
    refine ev_iald od_43_15 (st_A2 ha) (st_i2 ha bq1) ?_
    obtain ⟨y2, hy2, h⟩ := ov_bd h
    try dsimp only at h
    refine ev_csi (y := 24) (n := 1) (as := [.int (S (a + 2) (x2).toNatClampNeg)]) (rest := [.int x1]) (dc := 1) oc_43_16 rfl rfl rfl rfl rfl (by decide) (R24  hy2) ?_
    refine ev_ior od_43_19 ?_
    refine ev_istore_n (lv1 := [some (.ref a), some (.int (x1 ||| y2)), some (.int x2)]) od_43_20 rfl rfl ?_
    refine ev_iinc (v := (x2 + (1 : Int32))) (lv1 := [some (.ref a), some (.int (x1 ||| y2)), some (.int (x2 + (1 : Int32)))]) od_43_21 rfl rfl rfl ?_
    refine ev_goto (t := 4) od_43_24 (by decide) ?_
    cases h
    exact hk
def f43 (a : Nat) (S : ov_S) : Option (Int32) :=
  ((ov_lp (fun s => b43_4 a S s.1 s.2) 2000 ((0 : Int32), (0 : Int32))).bind fun e4 => some e4)
theorem t43 {L : Nat} {S : ov_S} {G : ov_L2} {a : Nat} {P : Option Value → ov_S → ov_L2 → Prop} (ha : ov_St a) {out : Int32} (h : f43 a S = some out) (hP : P (some (.int out)) S G) : ov_J L 1 43 0 [some (.ref a), none, none] [] S G P := by
  unfold f43 at h
  refine ev_iconst (v := (0 : Int32)) od_43_0 (by decide) ?_
  refine ev_istore_n (lv1 := [some (.ref a), some (.int (0 : Int32)), none]) od_43_1 rfl rfl ?_
  refine ev_iconst (v := (0 : Int32)) od_43_2 (by decide) ?_
  refine ev_istore_n (lv1 := [some (.ref a), some (.int (0 : Int32)), some (.int (0 : Int32))]) od_43_3 rfl rfl ?_
  obtain ⟨e4, he4, h⟩ := ov_bd h
  try dsimp only at h
  refine ov_lp_S (body := (fun s => b43_4 a S s.1 s.2)) (head := (fun s => ov_J L 1 43 4 [some (.ref a), some (.int s.1), some (.int s.2)] [] S G P)) (exit := (fun e => ov_J L 1 43 27 [none, some (.int e), none] [] S G P)) (fun s r hb hk => bt43_4 ha hb hk) 2000 ((0 : Int32), (0 : Int32)) e4 he4 ?_
  show ov_J L 1 43 27 [none, some (.int e4), none] [] S G P
  refine ev_iload_n od_43_27 rfl ?_
  cases h
  exact ev_iret od_43_28 rfl hP
theorem R43 {L : Nat} {S : ov_S} {G : ov_L2} {a : Nat} (ha : ov_St a) {out : Int32} (h : f43 a S = some out) : ov_R L 2 43 [.ref a] S G (some (.int out)) S G :=
  ov_Rof (t43 ha h ⟨rfl, rfl, rfl⟩)
-- 44 OE$Play.sayer
def f44 (a : Nat) (S : ov_S) (x1 : Int32) : Option (Int32) :=
  (f45 a S x1).bind fun y1 => (if y1 = 0 then some (-9 : Int32) else ov_ck (ov_ibb x1 6) (some (S (a + 5) (x1).toNatClampNeg)))
theorem t44 {L : Nat} {S : ov_S} {G : ov_L2} {a : Nat} {x1 : Int32} {P : Option Value → ov_S → ov_L2 → Prop} (ha : ov_Pl a) {out : Int32} (h : f44 a S x1 = some out) (hP : P (some (.int out)) S G) : ov_J L 1 44 0 [some (.ref a), some (.int x1)] [] S G P := by
  unfold f44 at h
  refine ev_aload_n od_44_0 rfl ?_
  refine ev_iload_n od_44_1 rfl ?_
  obtain ⟨y1, hy1, h⟩ := ov_bd h
  try dsimp only at h
  refine ev_cvi (y := 45) (n := 1) (a := a) (c := 2) (as := [.int x1]) (rest := []) (dc := 1) oc_44_2 rfl rfl rfl (pl_O ha) rfl rfl rfl rfl (by decide) (R45 ha hy1) ?_
  refine ev_if_eq (t := 17) od_44_5 (by decide) (fun hc3 => ?_) (fun hc3 => ?_)
  · rw [if_pos hc3] at h
    refine ev_bipush (v := (-9 : Int32)) od_44_17 (by decide) ?_
    cases h
    exact ev_iret od_44_19 rfl hP
  · rw [if_neg hc3] at h
    refine ev_aload_n od_44_8 rfl ?_
    refine ev_gf (v := .ref (a + 5)) og_44_9 (pl_O ha) (pl_v8 ha) ?_
    refine ev_iload_n od_44_12 rfl ?_
    obtain ⟨bq2, h⟩ := ov_ck_ok h
    refine ev_iald od_44_13 (pl_A5 ha) (pl_i5 ha bq2) ?_
    refine ev_goto (t := 19) od_44_14 (by decide) ?_
    cases h
    exact ev_iret od_44_19 rfl hP
theorem R44 {L : Nat} {S : ov_S} {G : ov_L2} {a : Nat} {x1 : Int32} (ha : ov_Pl a) {out : Int32} (h : f44 a S x1 = some out) : ov_R L 2 44 [.ref a, .int x1] S G (some (.int out)) S G :=
  ov_Rof (t44 ha h ⟨rfl, rfl, rfl⟩)
-- 46 OE$Play.hearer
def f46 (a : Nat) (S : ov_S) (x1 : Int32) : Option (Int32) :=
  (f45 a S x1).bind fun y1 => (if y1 = 0 then some (-9 : Int32) else ov_ck (ov_ibb x1 6) (some (S (a + 6) (x1).toNatClampNeg)))
theorem t46 {L : Nat} {S : ov_S} {G : ov_L2} {a : Nat} {x1 : Int32} {P : Option Value → ov_S → ov_L2 → Prop} (ha : ov_Pl a) {out : Int32} (h : f46 a S x1 = some out) (hP : P (some (.int out)) S G) : ov_J L 1 46 0 [some (.ref a), some (.int x1)] [] S G P := by
  unfold f46 at h
  refine ev_aload_n od_46_0 rfl ?_
  refine ev_iload_n od_46_1 rfl ?_
  obtain ⟨y1, hy1, h⟩ := ov_bd h
  try dsimp only at h
  refine ev_cvi (y := 45) (n := 1) (a := a) (c := 2) (as := [.int x1]) (rest := []) (dc := 1) oc_46_2 rfl rfl rfl (pl_O ha) rfl rfl rfl rfl (by decide) (R45 ha hy1) ?_
  refine ev_if_eq (t := 17) od_46_5 (by decide) (fun hc3 => ?_) (fun hc3 => ?_)
  · rw [if_pos hc3] at h
    refine ev_bipush (v := (-9 : Int32)) od_46_17 (by decide) ?_
    cases h
    exact ev_iret od_46_19 rfl hP
  · rw [if_neg hc3] at h
    refine ev_aload_n od_46_8 rfl ?_
    refine ev_gf (v := .ref (a + 6)) og_46_9 (pl_O ha) (pl_v9 ha) ?_
    refine ev_iload_n od_46_12 rfl ?_
    obtain ⟨bq2, h⟩ := ov_ck_ok h
    refine ev_iald od_46_13 (pl_A6 ha) (pl_i6 ha bq2) ?_
    refine ev_goto (t := 19) od_46_14 (by decide) ?_
    cases h
    exact ev_iret od_46_19 rfl hP
theorem R46 {L : Nat} {S : ov_S} {G : ov_L2} {a : Nat} {x1 : Int32} (ha : ov_Pl a) {out : Int32} (h : f46 a S x1 = some out) : ov_R L 2 46 [.ref a, .int x1] S G (some (.int out)) S G :=
  ov_Rof (t46 ha h ⟨rfl, rfl, rfl⟩)
-- 48 OE$Cells.between
def b48_99 (x0 : Int32) (x4 : Int32) (x5 : Int32) (x6 : Int32) (x7 : Int32) : Option ((Int32 × Int32) ⊕ (Int32)) :=
  (if x5 ≤ x7 then some (.inr x6) else (f24 (x0 + (x7 * x4))).bind fun y5 => some (.inl ((x6 ||| y5), (x7 + (1 : Int32)))))
theorem bt48_99 {L : Nat} {S : ov_S} {G : ov_L2} {x0 : Int32} {x4 : Int32} {x5 : Int32} {x6 : Int32} {x7 : Int32} {P : Option Value → ov_S → ov_L2 → Prop}  {out : (Int32 × Int32) ⊕ (Int32)} (h : b48_99 x0 x4 x5 x6 x7 = some out) (hk : ov_sm (σ := Int32 × Int32) (ε := (Int32)) (fun s => ov_J L 1 48 99 [some (.int x0), none, none, none, some (.int x4), some (.int x5), some (.int s.1), some (.int s.2)] [] S G P) (fun e => ov_J L 1 48 127 [none, none, none, none, none, none, some (.int e), none] [] S G P) out) : ov_J L 1 48 99 [some (.int x0), none, none, none, some (.int x4), some (.int x5), some (.int x6), some (.int x7)] [] S G P := by
  unfold b48_99 at h
  refine ev_iload od_48_99 rfl ?_
  refine ev_iload od_48_101 rfl ?_
  refine ev_icmp_ge (t := 127) od_48_103 (by decide) (fun hc6 => ?_) (fun hc6 => ?_)
  · rw [if_pos hc6] at h
    cases h
    refine ev_fg (lv0 := [none, none, none, none, none, none, some (.int x6), none]) (ov_le_n (ov_le_n (ov_le_n (ov_le_n (ov_le_n (ov_le_n (ov_le_s (ov_le_n (ov_le_e))))))))) ?_
    exact hk
  · rw [if_neg hc6] at h
    refine ev_iload od_48_106 rfl ?_
    refine ev_iload_n od_48_108 rfl ?_
    refine ev_iload od_48_109 rfl ?_
    refine ev_iload od_48_111 rfl ?_
    refine ev_imul od_48_113 ?_
    refine ev_iadd od_48_114 ?_
    obtain ⟨y5, hy5, h⟩ := ov_bd h
    try dsimp only at h
    refine ev_csi (y := 24) (n := 1) (as := [.int (x0 + (x7 * x4))]) (rest := [.int x6]) (dc := 1) oc_48_115 rfl rfl rfl rfl rfl (by decide) (R24  hy5) ?_
    refine ev_ior od_48_118 ?_
    refine ev_istore (lv1 := [some (.int x0), none, none, none, some (.int x4), some (.int x5), some (.int (x6 ||| y5)), some (.int x7)]) od_48_119 rfl rfl ?_
    refine ev_iinc (v := (x7 + (1 : Int32))) (lv1 := [some (.int x0), none, none, none, some (.int x4), some (.int x5), some (.int (x6 ||| y5)), some (.int (x7 + (1 : Int32)))]) od_48_121 rfl rfl rfl ?_
    refine ev_goto (t := 99) od_48_124 (by decide) ?_
    cases h
    exact hk
def f48_64 (x0 : Int32) (x2 : Int32) (x3 : Int32) : Option (Int32) :=
  (f51 x2 (0 : Int32)).bind fun y3 => (f51 x3 (0 : Int32)).bind fun y4 => ((ov_lp (fun s => b48_99 x0 (((6 : Int32) * y3) + y4) (if (if 0 ≤ x2 then x2 else 0 - x2) < (if 0 ≤ x3 then x3 else 0 - x3) then (if 0 ≤ x3 then x3 else 0 - x3) else (if 0 ≤ x2 then x2 else 0 - x2)) s.1 s.2) 2000 ((0 : Int32), (1 : Int32))).bind fun e7 => some e7)
theorem t48_64 {L : Nat} {S : ov_S} {G : ov_L2} {x0 : Int32} {x2 : Int32} {x3 : Int32} {P : Option Value → ov_S → ov_L2 → Prop}  {out : Int32} (h : f48_64 x0 x2 x3 = some out) (hP : P (some (.int out)) S G) : ov_J L 1 48 64 [some (.int x0), none, some (.int x2), some (.int x3), none, none, none, none] [] S G P := by
  unfold f48_64 at h
  refine ev_bipush (v := (6 : Int32)) od_48_64 (by decide) ?_
  refine ev_iload_n od_48_66 rfl ?_
  refine ev_iconst (v := (0 : Int32)) od_48_67 (by decide) ?_
  obtain ⟨y3, hy3, h⟩ := ov_bd h
  try dsimp only at h
  refine ev_csi (y := 51) (n := 2) (as := [.int x2, .int (0 : Int32)]) (rest := [.int (6 : Int32)]) (dc := 1) oc_48_68 rfl rfl rfl rfl rfl (by decide) (R51  hy3) ?_
  refine ev_imul od_48_71 ?_
  refine ev_iload_n od_48_72 rfl ?_
  refine ev_iconst (v := (0 : Int32)) od_48_73 (by decide) ?_
  obtain ⟨y4, hy4, h⟩ := ov_bd h
  try dsimp only at h
  refine ev_csi (y := 51) (n := 2) (as := [.int x3, .int (0 : Int32)]) (rest := [.int ((6 : Int32) * y3)]) (dc := 1) oc_48_74 rfl rfl rfl rfl rfl (by decide) (R51  hy4) ?_
  refine ev_iadd od_48_77 ?_
  refine ev_istore (lv1 := [some (.int x0), none, some (.int x2), some (.int x3), some (.int (((6 : Int32) * y3) + y4)), none, none, none]) od_48_78 rfl rfl ?_
  refine ev_iload_n od_48_80 rfl ?_
  refine ev_mabs ox_48_81 rfl ?_
  refine ev_iload_n od_48_84 rfl ?_
  refine ev_mabs ox_48_85 rfl ?_
  refine ev_mmax ox_48_88 rfl ?_
  refine ev_istore (lv1 := [some (.int x0), none, some (.int x2), some (.int x3), some (.int (((6 : Int32) * y3) + y4)), some (.int (if (if 0 ≤ x2 then x2 else 0 - x2) < (if 0 ≤ x3 then x3 else 0 - x3) then (if 0 ≤ x3 then x3 else 0 - x3) else (if 0 ≤ x2 then x2 else 0 - x2))), none, none]) od_48_91 rfl rfl ?_
  refine ev_iconst (v := (0 : Int32)) od_48_93 (by decide) ?_
  refine ev_istore (lv1 := [some (.int x0), none, some (.int x2), some (.int x3), some (.int (((6 : Int32) * y3) + y4)), some (.int (if (if 0 ≤ x2 then x2 else 0 - x2) < (if 0 ≤ x3 then x3 else 0 - x3) then (if 0 ≤ x3 then x3 else 0 - x3) else (if 0 ≤ x2 then x2 else 0 - x2))), some (.int (0 : Int32)), none]) od_48_94 rfl rfl ?_
  refine ev_iconst (v := (1 : Int32)) od_48_96 (by decide) ?_
  refine ev_istore (lv1 := [some (.int x0), none, some (.int x2), some (.int x3), some (.int (((6 : Int32) * y3) + y4)), some (.int (if (if 0 ≤ x2 then x2 else 0 - x2) < (if 0 ≤ x3 then x3 else 0 - x3) then (if 0 ≤ x3 then x3 else 0 - x3) else (if 0 ≤ x2 then x2 else 0 - x2))), some (.int (0 : Int32)), some (.int (1 : Int32))]) od_48_97 rfl rfl ?_
  obtain ⟨e7, he7, h⟩ := ov_bd h
  try dsimp only at h
  refine ev_fg (lv0 := [some (.int x0), none, none, none, some (.int (((6 : Int32) * y3) + y4)), some (.int (if (if 0 ≤ x2 then x2 else 0 - x2) < (if 0 ≤ x3 then x3 else 0 - x3) then (if 0 ≤ x3 then x3 else 0 - x3) else (if 0 ≤ x2 then x2 else 0 - x2))), some (.int (0 : Int32)), some (.int (1 : Int32))]) (ov_le_s (ov_le_n (ov_le_n (ov_le_n (ov_le_s (ov_le_s (ov_le_s (ov_le_s (ov_le_e))))))))) ?_
  refine ov_lp_S (body := (fun s => b48_99 x0 (((6 : Int32) * y3) + y4) (if (if 0 ≤ x2 then x2 else 0 - x2) < (if 0 ≤ x3 then x3 else 0 - x3) then (if 0 ≤ x3 then x3 else 0 - x3) else (if 0 ≤ x2 then x2 else 0 - x2)) s.1 s.2)) (head := (fun s => ov_J L 1 48 99 [some (.int x0), none, none, none, some (.int (((6 : Int32) * y3) + y4)), some (.int (if (if 0 ≤ x2 then x2 else 0 - x2) < (if 0 ≤ x3 then x3 else 0 - x3) then (if 0 ≤ x3 then x3 else 0 - x3) else (if 0 ≤ x2 then x2 else 0 - x2))), some (.int s.1), some (.int s.2)] [] S G P)) (exit := (fun e => ov_J L 1 48 127 [none, none, none, none, none, none, some (.int e), none] [] S G P)) (fun s r hb hk => bt48_99  hb hk) 2000 ((0 : Int32), (1 : Int32)) e7 he7 ?_
  show ov_J L 1 48 127 [none, none, none, none, none, none, some (.int e7), none] [] S G P
  refine ev_iload od_48_127 rfl ?_
  cases h
  exact ev_iret od_48_129 rfl hP
def f48 (x0 : Int32) (x1 : Int32) : Option (Int32) :=
  (f49 x0).bind fun y1 => (if y1 = 0 then some (-9 : Int32) else (f49 x1).bind fun y2 => (if y2 = 0 then some (-9 : Int32) else (if x0 = x1 then some (-9 : Int32) else (if ((x1 / (6 : Int32)) - (x0 / (6 : Int32))) = 0 then f48_64 x0 ((x1 / (6 : Int32)) - (x0 / (6 : Int32))) ((x1 - x1 / (6 : Int32) * (6 : Int32)) - (x0 - x0 / (6 : Int32) * (6 : Int32))) else (if ((x1 - x1 / (6 : Int32) * (6 : Int32)) - (x0 - x0 / (6 : Int32) * (6 : Int32))) = 0 then f48_64 x0 ((x1 / (6 : Int32)) - (x0 / (6 : Int32))) ((x1 - x1 / (6 : Int32) * (6 : Int32)) - (x0 - x0 / (6 : Int32) * (6 : Int32))) else (if (if 0 ≤ ((x1 / (6 : Int32)) - (x0 / (6 : Int32))) then ((x1 / (6 : Int32)) - (x0 / (6 : Int32))) else 0 - ((x1 / (6 : Int32)) - (x0 / (6 : Int32)))) = (if 0 ≤ ((x1 - x1 / (6 : Int32) * (6 : Int32)) - (x0 - x0 / (6 : Int32) * (6 : Int32))) then ((x1 - x1 / (6 : Int32) * (6 : Int32)) - (x0 - x0 / (6 : Int32) * (6 : Int32))) else 0 - ((x1 - x1 / (6 : Int32) * (6 : Int32)) - (x0 - x0 / (6 : Int32) * (6 : Int32)))) then f48_64 x0 ((x1 / (6 : Int32)) - (x0 / (6 : Int32))) ((x1 - x1 / (6 : Int32) * (6 : Int32)) - (x0 - x0 / (6 : Int32) * (6 : Int32))) else some (-9 : Int32)))))))
theorem t48 {L : Nat} {S : ov_S} {G : ov_L2} {x0 : Int32} {x1 : Int32} {P : Option Value → ov_S → ov_L2 → Prop}  {out : Int32} (h : f48 x0 x1 = some out) (hP : P (some (.int out)) S G) : ov_J L 1 48 0 [some (.int x0), some (.int x1), none, none, none, none, none, none] [] S G P := by
  unfold f48 at h
  refine ev_iload_n od_48_0 rfl ?_
  obtain ⟨y1, hy1, h⟩ := ov_bd h
  try dsimp only at h
  refine ev_csi (y := 49) (n := 1) (as := [.int x0]) (rest := []) (dc := 1) oc_48_1 rfl rfl rfl rfl rfl (by decide) (R49  hy1) ?_
  refine ev_if_eq (t := 19) od_48_4 (by decide) (fun hc13 => ?_) (fun hc13 => ?_)
  · rw [if_pos hc13] at h
    refine ev_bipush (v := (-9 : Int32)) od_48_19 (by decide) ?_
    cases h
    exact ev_iret od_48_21 rfl hP
  · rw [if_neg hc13] at h
    refine ev_iload_n od_48_7 rfl ?_
    obtain ⟨y2, hy2, h⟩ := ov_bd h
    try dsimp only at h
    refine ev_csi (y := 49) (n := 1) (as := [.int x1]) (rest := []) (dc := 1) oc_48_8 rfl rfl rfl rfl rfl (by decide) (R49  hy2) ?_
    refine ev_if_eq (t := 19) od_48_11 (by decide) (fun hc12 => ?_) (fun hc12 => ?_)
    · rw [if_pos hc12] at h
      refine ev_bipush (v := (-9 : Int32)) od_48_19 (by decide) ?_
      cases h
      exact ev_iret od_48_21 rfl hP
    · rw [if_neg hc12] at h
      refine ev_iload_n od_48_14 rfl ?_
      refine ev_iload_n od_48_15 rfl ?_
      refine ev_icmp_ne (t := 22) od_48_16 (by decide) (fun hc11 => ?_) (fun hc11 => ?_)
      · rw [if_neg hc11] at h
        refine ev_iload_n od_48_22 rfl ?_
        refine ev_bipush (v := (6 : Int32)) od_48_23 (by decide) ?_
        refine ev_idiv od_48_25 (by decide) ?_
        refine ev_iload_n od_48_26 rfl ?_
        refine ev_bipush (v := (6 : Int32)) od_48_27 (by decide) ?_
        refine ev_idiv od_48_29 (by decide) ?_
        refine ev_isub od_48_30 ?_
        refine ev_istore_n (lv1 := [some (.int x0), some (.int x1), some (.int ((x1 / (6 : Int32)) - (x0 / (6 : Int32)))), none, none, none, none, none]) od_48_31 rfl rfl ?_
        refine ev_iload_n od_48_32 rfl ?_
        refine ev_bipush (v := (6 : Int32)) od_48_33 (by decide) ?_
        refine ev_irem od_48_35 (by decide) ?_
        refine ev_iload_n od_48_36 rfl ?_
        refine ev_bipush (v := (6 : Int32)) od_48_37 (by decide) ?_
        refine ev_irem od_48_39 (by decide) ?_
        refine ev_isub od_48_40 ?_
        refine ev_istore_n (lv1 := [some (.int x0), some (.int x1), some (.int ((x1 / (6 : Int32)) - (x0 / (6 : Int32)))), some (.int ((x1 - x1 / (6 : Int32) * (6 : Int32)) - (x0 - x0 / (6 : Int32) * (6 : Int32)))), none, none, none, none]) od_48_41 rfl rfl ?_
        refine ev_iload_n od_48_42 rfl ?_
        refine ev_if_eq (t := 64) od_48_43 (by decide) (fun hc10 => ?_) (fun hc10 => ?_)
        · rw [if_pos hc10] at h
          refine ev_fg (lv0 := [some (.int x0), none, some (.int ((x1 / (6 : Int32)) - (x0 / (6 : Int32)))), some (.int ((x1 - x1 / (6 : Int32) * (6 : Int32)) - (x0 - x0 / (6 : Int32) * (6 : Int32)))), none, none, none, none]) (ov_le_s (ov_le_n (ov_le_s (ov_le_s (ov_le_n (ov_le_n (ov_le_n (ov_le_n (ov_le_e))))))))) ?_
          exact t48_64  h hP
        · rw [if_neg hc10] at h
          refine ev_iload_n od_48_46 rfl ?_
          refine ev_if_eq (t := 64) od_48_47 (by decide) (fun hc9 => ?_) (fun hc9 => ?_)
          · rw [if_pos hc9] at h
            refine ev_fg (lv0 := [some (.int x0), none, some (.int ((x1 / (6 : Int32)) - (x0 / (6 : Int32)))), some (.int ((x1 - x1 / (6 : Int32) * (6 : Int32)) - (x0 - x0 / (6 : Int32) * (6 : Int32)))), none, none, none, none]) (ov_le_s (ov_le_n (ov_le_s (ov_le_s (ov_le_n (ov_le_n (ov_le_n (ov_le_n (ov_le_e))))))))) ?_
            exact t48_64  h hP
          · rw [if_neg hc9] at h
            refine ev_iload_n od_48_50 rfl ?_
            refine ev_mabs ox_48_51 rfl ?_
            refine ev_iload_n od_48_54 rfl ?_
            refine ev_mabs ox_48_55 rfl ?_
            refine ev_icmp_eq (t := 64) od_48_58 (by decide) (fun hc8 => ?_) (fun hc8 => ?_)
            · rw [if_pos hc8] at h
              refine ev_fg (lv0 := [some (.int x0), none, some (.int ((x1 / (6 : Int32)) - (x0 / (6 : Int32)))), some (.int ((x1 - x1 / (6 : Int32) * (6 : Int32)) - (x0 - x0 / (6 : Int32) * (6 : Int32)))), none, none, none, none]) (ov_le_s (ov_le_n (ov_le_s (ov_le_s (ov_le_n (ov_le_n (ov_le_n (ov_le_n (ov_le_e))))))))) ?_
              exact t48_64  h hP
            · rw [if_neg hc8] at h
              refine ev_bipush (v := (-9 : Int32)) od_48_61 (by decide) ?_
              cases h
              exact ev_iret od_48_63 rfl hP
      · rw [if_pos hc11] at h
        refine ev_bipush (v := (-9 : Int32)) od_48_19 (by decide) ?_
        cases h
        exact ev_iret od_48_21 rfl hP
theorem R48 {L : Nat} {S : ov_S} {G : ov_L2} {x0 : Int32} {x1 : Int32}  {out : Int32} (h : f48 x0 x1 = some out) : ov_R L 2 48 [.int x0, .int x1] S G (some (.int out)) S G :=
  ov_Rof (t48  h ⟨rfl, rfl, rfl⟩)
-- 59 OE$Play.doorCell
def f59 (a : Nat) (S : ov_S) (x1 : Int32) : Option (Int32) :=
  (f58 a S x1).bind fun y1 => (if y1 = 0 then some (-9 : Int32) else ov_ck (ov_ibb x1 3) (some (S (a + 1) (x1).toNatClampNeg)))
theorem t59 {L : Nat} {S : ov_S} {G : ov_L2} {a : Nat} {x1 : Int32} {P : Option Value → ov_S → ov_L2 → Prop} (ha : ov_Pl a) {out : Int32} (h : f59 a S x1 = some out) (hP : P (some (.int out)) S G) : ov_J L 1 59 0 [some (.ref a), some (.int x1)] [] S G P := by
  unfold f59 at h
  refine ev_aload_n od_59_0 rfl ?_
  refine ev_iload_n od_59_1 rfl ?_
  obtain ⟨y1, hy1, h⟩ := ov_bd h
  try dsimp only at h
  refine ev_cvi (y := 58) (n := 1) (a := a) (c := 2) (as := [.int x1]) (rest := []) (dc := 1) oc_59_2 rfl rfl rfl (pl_O ha) rfl rfl rfl rfl (by decide) (R58 ha hy1) ?_
  refine ev_if_eq (t := 17) od_59_5 (by decide) (fun hc3 => ?_) (fun hc3 => ?_)
  · rw [if_pos hc3] at h
    refine ev_bipush (v := (-9 : Int32)) od_59_17 (by decide) ?_
    cases h
    exact ev_iret od_59_19 rfl hP
  · rw [if_neg hc3] at h
    refine ev_aload_n od_59_8 rfl ?_
    refine ev_gf (v := .ref (a + 1)) og_59_9 (pl_O ha) (pl_v4 ha) ?_
    refine ev_iload_n od_59_12 rfl ?_
    obtain ⟨bq2, h⟩ := ov_ck_ok h
    refine ev_iald od_59_13 (pl_A1 ha) (pl_i1 ha bq2) ?_
    refine ev_goto (t := 19) od_59_14 (by decide) ?_
    cases h
    exact ev_iret od_59_19 rfl hP
theorem R59 {L : Nat} {S : ov_S} {G : ov_L2} {a : Nat} {x1 : Int32} (ha : ov_Pl a) {out : Int32} (h : f59 a S x1 = some out) : ov_R L 2 59 [.ref a, .int x1] S G (some (.int out)) S G :=
  ov_Rof (t59 ha h ⟨rfl, rfl, rfl⟩)
-- 61 OE$Stage.stoolCell
def f61 (a : Nat) (S : ov_S) (x1 : Int32) : Option (Int32) :=
  (f7 4 S x1).bind fun y1 => (if y1 = 0 then some (-9 : Int32) else ov_ck (ov_ibb x1 4) (some (S (a + 2) (x1).toNatClampNeg)))
theorem t61 {L : Nat} {S : ov_S} {G : ov_L2} {a : Nat} {x1 : Int32} {P : Option Value → ov_S → ov_L2 → Prop} (ha : ov_St a) {out : Int32} (h : f61 a S x1 = some out) (hP : P (some (.int out)) S G) : ov_J L 1 61 0 [some (.ref a), some (.int x1)] [] S G P := by
  unfold f61 at h
  refine ev_aload_n od_61_0 rfl ?_
  refine ev_gf (v := .ref 4) og_61_1 (st_O ha) (st_v0 ha) ?_
  refine ev_iload_n od_61_4 rfl ?_
  obtain ⟨y1, hy1, h⟩ := ov_bd h
  try dsimp only at h
  refine ev_cvi (y := 7) (n := 1) (a := 4) (c := 2) (as := [.int x1]) (rest := []) (dc := 1) oc_61_5 rfl rfl rfl oO_4 rfl rfl rfl rfl (by decide) (R7 oP_4 hy1) ?_
  refine ev_if_eq (t := 20) od_61_8 (by decide) (fun hc3 => ?_) (fun hc3 => ?_)
  · rw [if_pos hc3] at h
    refine ev_bipush (v := (-9 : Int32)) od_61_20 (by decide) ?_
    cases h
    exact ev_iret od_61_22 rfl hP
  · rw [if_neg hc3] at h
    refine ev_aload_n od_61_11 rfl ?_
    refine ev_gf (v := .ref (a + 2)) og_61_12 (st_O ha) (st_v2 ha) ?_
    refine ev_iload_n od_61_15 rfl ?_
    obtain ⟨bq2, h⟩ := ov_ck_ok h
    refine ev_iald od_61_16 (st_A2 ha) (st_i2 ha bq2) ?_
    refine ev_goto (t := 22) od_61_17 (by decide) ?_
    cases h
    exact ev_iret od_61_22 rfl hP
theorem R61 {L : Nat} {S : ov_S} {G : ov_L2} {a : Nat} {x1 : Int32} (ha : ov_St a) {out : Int32} (h : f61 a S x1 = some out) : ov_R L 2 61 [.ref a, .int x1] S G (some (.int out)) S G :=
  ov_Rof (t61 ha h ⟨rfl, rfl, rfl⟩)
-- 63 OE$Play.weight
def f63 (a : Nat) (S : ov_S) (x1 : Int32) : Option (Int32) :=
  (f29 a S x1).bind fun y1 => (if y1 = 0 then some (0 : Int32) else ov_ck (ov_ibb x1 6) (some (S (a + 3) (x1).toNatClampNeg)))
theorem t63 {L : Nat} {S : ov_S} {G : ov_L2} {a : Nat} {x1 : Int32} {P : Option Value → ov_S → ov_L2 → Prop} (ha : ov_Pl a) {out : Int32} (h : f63 a S x1 = some out) (hP : P (some (.int out)) S G) : ov_J L 1 63 0 [some (.ref a), some (.int x1)] [] S G P := by
  unfold f63 at h
  refine ev_aload_n od_63_0 rfl ?_
  refine ev_iload_n od_63_1 rfl ?_
  obtain ⟨y1, hy1, h⟩ := ov_bd h
  try dsimp only at h
  refine ev_cvi (y := 29) (n := 1) (a := a) (c := 2) (as := [.int x1]) (rest := []) (dc := 1) oc_63_2 rfl rfl rfl (pl_O ha) rfl rfl rfl rfl (by decide) (R29 ha hy1) ?_
  refine ev_if_eq (t := 17) od_63_5 (by decide) (fun hc3 => ?_) (fun hc3 => ?_)
  · rw [if_pos hc3] at h
    refine ev_iconst (v := (0 : Int32)) od_63_17 (by decide) ?_
    cases h
    exact ev_iret od_63_18 rfl hP
  · rw [if_neg hc3] at h
    refine ev_aload_n od_63_8 rfl ?_
    refine ev_gf (v := .ref (a + 3)) og_63_9 (pl_O ha) (pl_v6 ha) ?_
    refine ev_iload_n od_63_12 rfl ?_
    obtain ⟨bq2, h⟩ := ov_ck_ok h
    refine ev_iald od_63_13 (pl_A3 ha) (pl_i3 ha bq2) ?_
    refine ev_goto (t := 18) od_63_14 (by decide) ?_
    cases h
    exact ev_iret od_63_18 rfl hP
theorem R63 {L : Nat} {S : ov_S} {G : ov_L2} {a : Nat} {x1 : Int32} (ha : ov_Pl a) {out : Int32} (h : f63 a S x1 = some out) : ov_R L 2 63 [.ref a, .int x1] S G (some (.int out)) S G :=
  ov_Rof (t63 ha h ⟨rfl, rfl, rfl⟩)
-- 64 OE$Play.kind
def f64 (a : Nat) (S : ov_S) (x1 : Int32) : Option (Int32) :=
  (f29 a S x1).bind fun y1 => (if y1 = 0 then some (-9 : Int32) else ov_ck (ov_ibb x1 6) (some (S (a + 4) (x1).toNatClampNeg)))
theorem t64 {L : Nat} {S : ov_S} {G : ov_L2} {a : Nat} {x1 : Int32} {P : Option Value → ov_S → ov_L2 → Prop} (ha : ov_Pl a) {out : Int32} (h : f64 a S x1 = some out) (hP : P (some (.int out)) S G) : ov_J L 1 64 0 [some (.ref a), some (.int x1)] [] S G P := by
  unfold f64 at h
  refine ev_aload_n od_64_0 rfl ?_
  refine ev_iload_n od_64_1 rfl ?_
  obtain ⟨y1, hy1, h⟩ := ov_bd h
  try dsimp only at h
  refine ev_cvi (y := 29) (n := 1) (a := a) (c := 2) (as := [.int x1]) (rest := []) (dc := 1) oc_64_2 rfl rfl rfl (pl_O ha) rfl rfl rfl rfl (by decide) (R29 ha hy1) ?_
  refine ev_if_eq (t := 17) od_64_5 (by decide) (fun hc3 => ?_) (fun hc3 => ?_)
  · rw [if_pos hc3] at h
    refine ev_bipush (v := (-9 : Int32)) od_64_17 (by decide) ?_
    cases h
    exact ev_iret od_64_19 rfl hP
  · rw [if_neg hc3] at h
    refine ev_aload_n od_64_8 rfl ?_
    refine ev_gf (v := .ref (a + 4)) og_64_9 (pl_O ha) (pl_v7 ha) ?_
    refine ev_iload_n od_64_12 rfl ?_
    obtain ⟨bq2, h⟩ := ov_ck_ok h
    refine ev_iald od_64_13 (pl_A4 ha) (pl_i4 ha bq2) ?_
    refine ev_goto (t := 19) od_64_14 (by decide) ?_
    cases h
    exact ev_iret od_64_19 rfl hP
theorem R64 {L : Nat} {S : ov_S} {G : ov_L2} {a : Nat} {x1 : Int32} (ha : ov_Pl a) {out : Int32} (h : f64 a S x1 = some out) : ov_R L 2 64 [.ref a, .int x1] S G (some (.int out)) S G :=
  ov_Rof (t64 ha h ⟨rfl, rfl, rfl⟩)
-- 67 OE$Cells.reached
def b67_7 (x1 : Int32) (x2 : Int32) (x3 : Int32) : Option ((Int32 × Int32) ⊕ (Int32)) :=
  (if (18 : Int32) ≤ x3 then some (.inr x2) else (f68 x2 x1).bind fun y2 => some (.inl ((x2 ||| y2), (x3 + (1 : Int32)))))
theorem bt67_7 {L : Nat} {S : ov_S} {G : ov_L2} {x1 : Int32} {x2 : Int32} {x3 : Int32} {P : Option Value → ov_S → ov_L2 → Prop}  {out : (Int32 × Int32) ⊕ (Int32)} (h : b67_7 x1 x2 x3 = some out) (hk : ov_sm (σ := Int32 × Int32) (ε := (Int32)) (fun s => ov_J L 1 67 7 [none, some (.int x1), some (.int s.1), some (.int s.2)] [] S G P) (fun e => ov_J L 1 67 27 [none, none, some (.int e), none] [] S G P) out) : ov_J L 1 67 7 [none, some (.int x1), some (.int x2), some (.int x3)] [] S G P := by
  unfold b67_7 at h
  refine ev_iload_n od_67_7 rfl ?_
  refine ev_bipush (v := (18 : Int32)) od_67_8 (by decide) ?_
  refine ev_icmp_ge (t := 27) od_67_10 (by decide) (fun hc3 => ?_) (fun hc3 => ?_)
  · rw [if_pos hc3] at h
    cases h
    refine ev_fg (lv0 := [none, none, some (.int x2), none]) (ov_le_n (ov_le_n (ov_le_s (ov_le_n (ov_le_e))))) ?_
    exact hk
  · rw [if_neg hc3] at h
    refine ev_iload_n od_67_13 rfl ?_
    refine ev_iload_n od_67_14 rfl ?_
    refine ev_iload_n od_67_15 rfl ?_
    obtain ⟨y2, hy2, h⟩ := ov_bd h
    try dsimp only at h
    refine ev_csi (y := 68) (n := 2) (as := [.int x2, .int x1]) (rest := [.int x2]) (dc := 1) oc_67_16 rfl rfl rfl rfl rfl (by decide) (R68  hy2) ?_
    refine ev_ior od_67_19 ?_
    refine ev_istore_n (lv1 := [none, some (.int x1), some (.int (x2 ||| y2)), some (.int x3)]) od_67_20 rfl rfl ?_
    refine ev_iinc (v := (x3 + (1 : Int32))) (lv1 := [none, some (.int x1), some (.int (x2 ||| y2)), some (.int (x3 + (1 : Int32)))]) od_67_21 rfl rfl rfl ?_
    refine ev_goto (t := 7) od_67_24 (by decide) ?_
    cases h
    exact hk
def f67 (x0 : Int32) (x1 : Int32) : Option (Int32) :=
  (f24 x0).bind fun y1 => ((ov_lp (fun s => b67_7 x1 s.1 s.2) 2000 (y1, (1 : Int32))).bind fun e4 => some e4)
theorem t67 {L : Nat} {S : ov_S} {G : ov_L2} {x0 : Int32} {x1 : Int32} {P : Option Value → ov_S → ov_L2 → Prop}  {out : Int32} (h : f67 x0 x1 = some out) (hP : P (some (.int out)) S G) : ov_J L 1 67 0 [some (.int x0), some (.int x1), none, none] [] S G P := by
  unfold f67 at h
  refine ev_iload_n od_67_0 rfl ?_
  obtain ⟨y1, hy1, h⟩ := ov_bd h
  try dsimp only at h
  refine ev_csi (y := 24) (n := 1) (as := [.int x0]) (rest := []) (dc := 1) oc_67_1 rfl rfl rfl rfl rfl (by decide) (R24  hy1) ?_
  refine ev_istore_n (lv1 := [some (.int x0), some (.int x1), some (.int y1), none]) od_67_4 rfl rfl ?_
  refine ev_iconst (v := (1 : Int32)) od_67_5 (by decide) ?_
  refine ev_istore_n (lv1 := [some (.int x0), some (.int x1), some (.int y1), some (.int (1 : Int32))]) od_67_6 rfl rfl ?_
  obtain ⟨e4, he4, h⟩ := ov_bd h
  try dsimp only at h
  refine ev_fg (lv0 := [none, some (.int x1), some (.int y1), some (.int (1 : Int32))]) (ov_le_n (ov_le_s (ov_le_s (ov_le_s (ov_le_e))))) ?_
  refine ov_lp_S (body := (fun s => b67_7 x1 s.1 s.2)) (head := (fun s => ov_J L 1 67 7 [none, some (.int x1), some (.int s.1), some (.int s.2)] [] S G P)) (exit := (fun e => ov_J L 1 67 27 [none, none, some (.int e), none] [] S G P)) (fun s r hb hk => bt67_7  hb hk) 2000 (y1, (1 : Int32)) e4 he4 ?_
  show ov_J L 1 67 27 [none, none, some (.int e4), none] [] S G P
  refine ev_iload_n od_67_27 rfl ?_
  cases h
  exact ev_iret od_67_28 rfl hP
theorem R67 {L : Nat} {S : ov_S} {G : ov_L2} {x0 : Int32} {x1 : Int32}  {out : Int32} (h : f67 x0 x1 = some out) : ov_R L 2 67 [.int x0, .int x1] S G (some (.int out)) S G :=
  ov_Rof (t67  h ⟨rfl, rfl, rfl⟩)
-- 75 OE$Acts.add
def f75_13 (S : ov_S) (x1 : Int32) (x2 : Int32) (x3 : Int32) : Option (ov_S) :=
  ov_ck (ov_ibb (S 24 3) 14) (ov_ck (ov_ibb ((ov_up S 25 ((S 24 3)).toNatClampNeg x1) 24 3) 14) (ov_ck (ov_ibb ((ov_up (ov_up S 25 ((S 24 3)).toNatClampNeg x1) 26 (((ov_up S 25 ((S 24 3)).toNatClampNeg x1) 24 3)).toNatClampNeg x2) 24 3) 14) (some (ov_up (ov_up (ov_up (ov_up S 25 ((S 24 3)).toNatClampNeg x1) 26 (((ov_up S 25 ((S 24 3)).toNatClampNeg x1) 24 3)).toNatClampNeg x2) 27 (((ov_up (ov_up S 25 ((S 24 3)).toNatClampNeg x1) 26 (((ov_up S 25 ((S 24 3)).toNatClampNeg x1) 24 3)).toNatClampNeg x2) 24 3)).toNatClampNeg x3) 24 3 (((ov_up (ov_up (ov_up S 25 ((S 24 3)).toNatClampNeg x1) 26 (((ov_up S 25 ((S 24 3)).toNatClampNeg x1) 24 3)).toNatClampNeg x2) 27 (((ov_up (ov_up S 25 ((S 24 3)).toNatClampNeg x1) 26 (((ov_up S 25 ((S 24 3)).toNatClampNeg x1) 24 3)).toNatClampNeg x2) 24 3)).toNatClampNeg x3) 24 3) + (1 : Int32))))))
theorem t75_13 {L : Nat} {S : ov_S} {G : ov_L2} {x1 : Int32} {x2 : Int32} {x3 : Int32} {P : Option Value → ov_S → ov_L2 → Prop}  {out : ov_S} (h : f75_13 S x1 x2 x3 = some out) (hP : P none out G) : ov_J L 1 75 13 [some (.ref 24), some (.int x1), some (.int x2), some (.int x3)] [] S G P := by
  unfold f75_13 at h
  refine ev_aload_n od_75_13 rfl ?_
  refine ev_gf (v := .ref 25) og_75_14 oO_24 rfl ?_
  refine ev_aload_n od_75_17 rfl ?_
  refine ev_gf (v := .int (S 24 3)) og_75_18 oO_24 rfl ?_
  refine ev_iload_n od_75_21 rfl ?_
  obtain ⟨bq1, h⟩ := ov_ck_ok h
  refine ev_iast od_75_22 oA_25 (ov_ibk bq1) ?_
  refine ev_aload_n od_75_23 rfl ?_
  refine ev_gf (v := .ref 26) og_75_24 oO_24 rfl ?_
  refine ev_aload_n od_75_27 rfl ?_
  refine ev_gf (v := .int ((ov_up S 25 ((S 24 3)).toNatClampNeg x1) 24 3)) og_75_28 oO_24 rfl ?_
  refine ev_iload_n od_75_31 rfl ?_
  obtain ⟨bq2, h⟩ := ov_ck_ok h
  refine ev_iast od_75_32 oA_26 (ov_ibk bq2) ?_
  refine ev_aload_n od_75_33 rfl ?_
  refine ev_gf (v := .ref 27) og_75_34 oO_24 rfl ?_
  refine ev_aload_n od_75_37 rfl ?_
  refine ev_gf (v := .int ((ov_up (ov_up S 25 ((S 24 3)).toNatClampNeg x1) 26 (((ov_up S 25 ((S 24 3)).toNatClampNeg x1) 24 3)).toNatClampNeg x2) 24 3)) og_75_38 oO_24 rfl ?_
  refine ev_iload_n od_75_41 rfl ?_
  obtain ⟨bq3, h⟩ := ov_ck_ok h
  refine ev_iast od_75_42 oA_27 (ov_ibk bq3) ?_
  refine ev_aload_n od_75_43 rfl ?_
  refine ev_dup od_75_44 rfl ?_
  refine ev_gf (v := .int ((ov_up (ov_up (ov_up S 25 ((S 24 3)).toNatClampNeg x1) 26 (((ov_up S 25 ((S 24 3)).toNatClampNeg x1) 24 3)).toNatClampNeg x2) 27 (((ov_up (ov_up S 25 ((S 24 3)).toNatClampNeg x1) 26 (((ov_up S 25 ((S 24 3)).toNatClampNeg x1) 24 3)).toNatClampNeg x2) 24 3)).toNatClampNeg x3) 24 3)) og_75_45 oO_24 rfl ?_
  refine ev_iconst (v := (1 : Int32)) od_75_48 (by decide) ?_
  refine ev_iadd od_75_49 ?_
  refine ev_pf op_75_50 oO_24 rfl rfl ?_
  cases h
  exact ev_vret od_75_53 rfl hP
def f75 (S : ov_S) (x1 : Int32) (x2 : Int32) (x3 : Int32) : Option (ov_S) :=
  (if (S 24 3) < (14 : Int32) then f75_13 S x1 x2 x3 else (f76 S).bind fun y4 => f75_13 y4 x1 x2 x3)
theorem t75 {L : Nat} {S : ov_S} {G : ov_L2} {x1 : Int32} {x2 : Int32} {x3 : Int32} {P : Option Value → ov_S → ov_L2 → Prop}  {out : ov_S} (h : f75 S x1 x2 x3 = some out) (hP : P none out G) : ov_J L 1 75 0 [some (.ref 24), some (.int x1), some (.int x2), some (.int x3)] [] S G P := by
  unfold f75 at h
  refine ev_aload_n od_75_0 rfl ?_
  refine ev_gf (v := .int (S 24 3)) og_75_1 oO_24 rfl ?_
  refine ev_bipush (v := (14 : Int32)) od_75_4 (by decide) ?_
  refine ev_icmp_lt (t := 13) od_75_6 (by decide) (fun hc5 => ?_) (fun hc5 => ?_)
  · rw [if_pos hc5] at h
    exact t75_13  h hP
  · rw [if_neg hc5] at h
    refine ev_aload_n od_75_9 rfl ?_
    obtain ⟨y4, hy4, h⟩ := ov_bd h
    try dsimp only at h
    refine ev_cvv (y := 76) (n := 0) (a := 24) (c := 4) (as := []) (rest := []) (dc := 1) oc_75_10 rfl rfl rfl oO_24 rfl rfl rfl rfl (by decide) (R76  hy4) ?_
    exact t75_13  h hP
theorem R75 {L : Nat} {S : ov_S} {G : ov_L2} {x1 : Int32} {x2 : Int32} {x3 : Int32}  {out : ov_S} (h : f75 S x1 x2 x3 = some out) : ov_R L 2 75 [.ref 24, .int x1, .int x2, .int x3] S G none out G :=
  ov_Rof (t75  h ⟨rfl, rfl, rfl⟩)
-- 79 OE$Cells.next
def f79 (x0 : Int32) (x1 : Int32) : Option (Int32) :=
  (if x1 = (0 : Int32) then (f23 (257982 : Int32) x0).bind fun y3 => (if y3 = 0 then some (-9 : Int32) else some (x0 - (1 : Int32))) else if x1 = (1 : Int32) then (f23 (128991 : Int32) x0).bind fun y7 => (if y7 = 0 then some (-9 : Int32) else some (x0 + (1 : Int32))) else if x1 = (2 : Int32) then (f49 x0).bind fun y10 => (if y10 = 0 then some (-9 : Int32) else (f49 (x0 - (6 : Int32))).bind fun y11 => (if y11 = 0 then some (-9 : Int32) else some (x0 - (6 : Int32)))) else if x1 = (3 : Int32) then (f49 x0).bind fun y15 => (if y15 = 0 then some (-9 : Int32) else (f49 (x0 + (6 : Int32))).bind fun y16 => (if y16 = 0 then some (-9 : Int32) else some (x0 + (6 : Int32)))) else some (-9 : Int32))
theorem t79 {L : Nat} {S : ov_S} {G : ov_L2} {x0 : Int32} {x1 : Int32} {P : Option Value → ov_S → ov_L2 → Prop}  {out : Int32} (h : f79 x0 x1 = some out) (hP : P (some (.int out)) S G) : ov_J L 1 79 0 [some (.int x0), some (.int x1)] [] S G P := by
  unfold f79 at h
  refine ev_iload_n od_79_0 rfl ?_
  by_cases hc1 : x1 = (0 : Int32)
  · rw [if_pos hc1] at h
    refine ev_tsc (off := 31) (t := 32) hc1 od_79_1 (by decide) (by decide) ?_
    obtain ⟨w2, hw2⟩ := ok_79_32
    refine ev_ldc od_79_32 hw2 ?_
    refine ev_iload_n od_79_34 rfl ?_
    obtain ⟨y3, hy3, h⟩ := ov_bd h
    try dsimp only at h
    refine ev_csi (y := 23) (n := 2) (as := [.int (257982 : Int32), .int x0]) (rest := []) (dc := 1) oc_79_35 rfl rfl rfl rfl rfl (by decide) (R23  hy3) ?_
    refine ev_if_eq (t := 47) od_79_38 (by decide) (fun hc4 => ?_) (fun hc4 => ?_)
    · rw [if_pos hc4] at h
      refine ev_bipush (v := (-9 : Int32)) od_79_47 (by decide) ?_
      cases h
      exact ev_iret od_79_49 rfl hP
    · rw [if_neg hc4] at h
      refine ev_iload_n od_79_41 rfl ?_
      refine ev_iconst (v := (1 : Int32)) od_79_42 (by decide) ?_
      refine ev_isub od_79_43 ?_
      refine ev_goto (t := 49) od_79_44 (by decide) ?_
      cases h
      exact ev_iret od_79_49 rfl hP
  rw [if_neg hc1] at h
  by_cases hc5 : x1 = (1 : Int32)
  · rw [if_pos hc5] at h
    refine ev_tsc (off := 49) (t := 50) hc5 od_79_1 (by decide) (by decide) ?_
    obtain ⟨w6, hw6⟩ := ok_79_50
    refine ev_ldc od_79_50 hw6 ?_
    refine ev_iload_n od_79_52 rfl ?_
    obtain ⟨y7, hy7, h⟩ := ov_bd h
    try dsimp only at h
    refine ev_csi (y := 23) (n := 2) (as := [.int (128991 : Int32), .int x0]) (rest := []) (dc := 1) oc_79_53 rfl rfl rfl rfl rfl (by decide) (R23  hy7) ?_
    refine ev_if_eq (t := 65) od_79_56 (by decide) (fun hc8 => ?_) (fun hc8 => ?_)
    · rw [if_pos hc8] at h
      refine ev_bipush (v := (-9 : Int32)) od_79_65 (by decide) ?_
      cases h
      exact ev_iret od_79_67 rfl hP
    · rw [if_neg hc8] at h
      refine ev_iload_n od_79_59 rfl ?_
      refine ev_iconst (v := (1 : Int32)) od_79_60 (by decide) ?_
      refine ev_iadd od_79_61 ?_
      refine ev_goto (t := 67) od_79_62 (by decide) ?_
      cases h
      exact ev_iret od_79_67 rfl hP
  rw [if_neg hc5] at h
  by_cases hc9 : x1 = (2 : Int32)
  · rw [if_pos hc9] at h
    refine ev_tsc (off := 67) (t := 68) hc9 od_79_1 (by decide) (by decide) ?_
    refine ev_iload_n od_79_68 rfl ?_
    obtain ⟨y10, hy10, h⟩ := ov_bd h
    try dsimp only at h
    refine ev_csi (y := 49) (n := 1) (as := [.int x0]) (rest := []) (dc := 1) oc_79_69 rfl rfl rfl rfl rfl (by decide) (R49  hy10) ?_
    refine ev_if_eq (t := 92) od_79_72 (by decide) (fun hc13 => ?_) (fun hc13 => ?_)
    · rw [if_pos hc13] at h
      refine ev_bipush (v := (-9 : Int32)) od_79_92 (by decide) ?_
      cases h
      exact ev_iret od_79_94 rfl hP
    · rw [if_neg hc13] at h
      refine ev_iload_n od_79_75 rfl ?_
      refine ev_bipush (v := (6 : Int32)) od_79_76 (by decide) ?_
      refine ev_isub od_79_78 ?_
      obtain ⟨y11, hy11, h⟩ := ov_bd h
      try dsimp only at h
      refine ev_csi (y := 49) (n := 1) (as := [.int (x0 - (6 : Int32))]) (rest := []) (dc := 1) oc_79_79 rfl rfl rfl rfl rfl (by decide) (R49  hy11) ?_
      refine ev_if_eq (t := 92) od_79_82 (by decide) (fun hc12 => ?_) (fun hc12 => ?_)
      · rw [if_pos hc12] at h
        refine ev_bipush (v := (-9 : Int32)) od_79_92 (by decide) ?_
        cases h
        exact ev_iret od_79_94 rfl hP
      · rw [if_neg hc12] at h
        refine ev_iload_n od_79_85 rfl ?_
        refine ev_bipush (v := (6 : Int32)) od_79_86 (by decide) ?_
        refine ev_isub od_79_88 ?_
        refine ev_goto (t := 94) od_79_89 (by decide) ?_
        cases h
        exact ev_iret od_79_94 rfl hP
  rw [if_neg hc9] at h
  by_cases hc14 : x1 = (3 : Int32)
  · rw [if_pos hc14] at h
    refine ev_tsc (off := 94) (t := 95) hc14 od_79_1 (by decide) (by decide) ?_
    refine ev_iload_n od_79_95 rfl ?_
    obtain ⟨y15, hy15, h⟩ := ov_bd h
    try dsimp only at h
    refine ev_csi (y := 49) (n := 1) (as := [.int x0]) (rest := []) (dc := 1) oc_79_96 rfl rfl rfl rfl rfl (by decide) (R49  hy15) ?_
    refine ev_if_eq (t := 119) od_79_99 (by decide) (fun hc18 => ?_) (fun hc18 => ?_)
    · rw [if_pos hc18] at h
      refine ev_bipush (v := (-9 : Int32)) od_79_119 (by decide) ?_
      cases h
      exact ev_iret od_79_121 rfl hP
    · rw [if_neg hc18] at h
      refine ev_iload_n od_79_102 rfl ?_
      refine ev_bipush (v := (6 : Int32)) od_79_103 (by decide) ?_
      refine ev_iadd od_79_105 ?_
      obtain ⟨y16, hy16, h⟩ := ov_bd h
      try dsimp only at h
      refine ev_csi (y := 49) (n := 1) (as := [.int (x0 + (6 : Int32))]) (rest := []) (dc := 1) oc_79_106 rfl rfl rfl rfl rfl (by decide) (R49  hy16) ?_
      refine ev_if_eq (t := 119) od_79_109 (by decide) (fun hc17 => ?_) (fun hc17 => ?_)
      · rw [if_pos hc17] at h
        refine ev_bipush (v := (-9 : Int32)) od_79_119 (by decide) ?_
        cases h
        exact ev_iret od_79_121 rfl hP
      · rw [if_neg hc17] at h
        refine ev_iload_n od_79_112 rfl ?_
        refine ev_bipush (v := (6 : Int32)) od_79_113 (by decide) ?_
        refine ev_iadd od_79_115 ?_
        refine ev_goto (t := 121) od_79_116 (by decide) ?_
        cases h
        exact ev_iret od_79_121 rfl hP
  rw [if_neg hc14] at h
  have ehc1 := ov_ni hc1
  have ehc5 := ov_ni hc5
  have ehc9 := ov_ni hc9
  have ehc14 := ov_ni hc14
  have hout : (x1).toInt < 0 ∨ 3 < (x1).toInt := by
    rw [show ((0 : Int32)).toInt = 0 from by decide] at ehc1
    rw [show ((1 : Int32)).toInt = 1 from by decide] at ehc5
    rw [show ((2 : Int32)).toInt = 2 from by decide] at ehc9
    rw [show ((3 : Int32)).toInt = 3 from by decide] at ehc14
    omega
  refine ev_tsd (t := 122) hout od_79_1 (by decide) ?_
  refine ev_bipush (v := (-9 : Int32)) od_79_122 (by decide) ?_
  cases h
  exact ev_iret od_79_124 rfl hP
theorem R79 {L : Nat} {S : ov_S} {G : ov_L2} {x0 : Int32} {x1 : Int32}  {out : Int32} (h : f79 x0 x1 = some out) : ov_R L 2 79 [.int x0, .int x1] S G (some (.int out)) S G :=
  ov_Rof (t79  h ⟨rfl, rfl, rfl⟩)
-- 90 OE$Stage.stand
def f90 (a : Nat) (S : ov_S) (x1 : Int32) (x2 : Int32) : Option (ov_S) :=
  (f29 4 S x1).bind fun y1 => (if y1 = 0 then some S else ov_ck (ov_ibb x1 6) (some (ov_up S (a + 1) (x1).toNatClampNeg x2)))
theorem t90 {L : Nat} {S : ov_S} {G : ov_L2} {a : Nat} {x1 : Int32} {x2 : Int32} {P : Option Value → ov_S → ov_L2 → Prop} (ha : ov_St a) {out : ov_S} (h : f90 a S x1 x2 = some out) (hP : P none out G) : ov_J L 1 90 0 [some (.ref a), some (.int x1), some (.int x2)] [] S G P := by
  unfold f90 at h
  refine ev_aload_n od_90_0 rfl ?_
  refine ev_gf (v := .ref 4) og_90_1 (st_O ha) (st_v0 ha) ?_
  refine ev_iload_n od_90_4 rfl ?_
  obtain ⟨y1, hy1, h⟩ := ov_bd h
  try dsimp only at h
  refine ev_cvi (y := 29) (n := 1) (a := 4) (c := 2) (as := [.int x1]) (rest := []) (dc := 1) oc_90_5 rfl rfl rfl oO_4 rfl rfl rfl rfl (by decide) (R29 oP_4 hy1) ?_
  refine ev_if_eq (t := 18) od_90_8 (by decide) (fun hc3 => ?_) (fun hc3 => ?_)
  · rw [if_pos hc3] at h
    cases h
    exact ev_vret od_90_18 rfl hP
  · rw [if_neg hc3] at h
    refine ev_aload_n od_90_11 rfl ?_
    refine ev_gf (v := .ref (a + 1)) og_90_12 (st_O ha) (st_v1 ha) ?_
    refine ev_iload_n od_90_15 rfl ?_
    refine ev_iload_n od_90_16 rfl ?_
    obtain ⟨bq2, h⟩ := ov_ck_ok h
    refine ev_iast od_90_17 (st_A1 ha) (st_i1 ha bq2) ?_
    cases h
    exact ev_vret od_90_18 rfl hP
theorem R90 {L : Nat} {S : ov_S} {G : ov_L2} {a : Nat} {x1 : Int32} {x2 : Int32} (ha : ov_St a) {out : ov_S} (h : f90 a S x1 x2 = some out) : ov_R L 2 90 [.ref a, .int x1, .int x2] S G none out G :=
  ov_Rof (t90 ha h ⟨rfl, rfl, rfl⟩)
-- 94 OE$Cells.steps
def b94_8 (x1 : Int32) (x2 : Int32) (x3 : Int32) (x4 : Int32) : Option ((Int32 × Int32) ⊕ ((Unit) ⊕ (Int32))) :=
  (if (18 : Int32) ≤ x4 then some (.inr (.inl ())) else (f23 x3 x1).bind fun y2 => (if y2 = 0 then (f68 x3 x2).bind fun y3 => some (.inl ((x3 ||| y3), (x4 + (1 : Int32)))) else some (.inr (.inr x4))))
theorem bt94_8 {L : Nat} {S : ov_S} {G : ov_L2} {x1 : Int32} {x2 : Int32} {x3 : Int32} {x4 : Int32} {P : Option Value → ov_S → ov_L2 → Prop}  {out : (Int32 × Int32) ⊕ ((Unit) ⊕ (Int32))} (h : b94_8 x1 x2 x3 x4 = some out) (hk : ov_sm (σ := Int32 × Int32) (ε := ((Unit) ⊕ (Int32))) (fun s => ov_J L 1 94 8 [none, some (.int x1), some (.int x2), some (.int s.1), some (.int s.2)] [] S G P) (ov_sm (fun e => ov_J L 1 94 40 [none, none, none, none, none] [] S G P) (fun t => P (some (.int t)) S G)) out) : ov_J L 1 94 8 [none, some (.int x1), some (.int x2), some (.int x3), some (.int x4)] [] S G P := by
  unfold b94_8 at h
  refine ev_iload od_94_8 rfl ?_
  refine ev_bipush (v := (18 : Int32)) od_94_10 (by decide) ?_
  refine ev_icmp_ge (t := 40) od_94_12 (by decide) (fun hc5 => ?_) (fun hc5 => ?_)
  · rw [if_pos hc5] at h
    cases h
    refine ev_fg (lv0 := [none, none, none, none, none]) (ov_le_n (ov_le_n (ov_le_n (ov_le_n (ov_le_n (ov_le_e)))))) ?_
    exact hk
  · rw [if_neg hc5] at h
    refine ev_iload_n od_94_15 rfl ?_
    refine ev_iload_n od_94_16 rfl ?_
    obtain ⟨y2, hy2, h⟩ := ov_bd h
    try dsimp only at h
    refine ev_csi (y := 23) (n := 2) (as := [.int x3, .int x1]) (rest := []) (dc := 1) oc_94_17 rfl rfl rfl rfl rfl (by decide) (R23  hy2) ?_
    refine ev_if_eq (t := 26) od_94_20 (by decide) (fun hc4 => ?_) (fun hc4 => ?_)
    · rw [if_pos hc4] at h
      refine ev_iload_n od_94_26 rfl ?_
      refine ev_iload_n od_94_27 rfl ?_
      refine ev_iload_n od_94_28 rfl ?_
      obtain ⟨y3, hy3, h⟩ := ov_bd h
      try dsimp only at h
      refine ev_csi (y := 68) (n := 2) (as := [.int x3, .int x2]) (rest := [.int x3]) (dc := 1) oc_94_29 rfl rfl rfl rfl rfl (by decide) (R68  hy3) ?_
      refine ev_ior od_94_32 ?_
      refine ev_istore_n (lv1 := [none, some (.int x1), some (.int x2), some (.int (x3 ||| y3)), some (.int x4)]) od_94_33 rfl rfl ?_
      refine ev_iinc (v := (x4 + (1 : Int32))) (lv1 := [none, some (.int x1), some (.int x2), some (.int (x3 ||| y3)), some (.int (x4 + (1 : Int32)))]) od_94_34 rfl rfl rfl ?_
      refine ev_goto (t := 8) od_94_37 (by decide) ?_
      cases h
      exact hk
    · rw [if_neg hc4] at h
      refine ev_iload od_94_23 rfl ?_
      cases h
      exact ev_iret od_94_25 rfl hk
def f94 (x0 : Int32) (x1 : Int32) (x2 : Int32) : Option (Int32) :=
  (f24 x0).bind fun y1 => ((ov_lp (fun s => b94_8 x1 x2 s.1 s.2) 2000 (y1, (0 : Int32))).bind fun e6 => match e6 with | .inl e7 => some (-9 : Int32) | .inr t => some t)
theorem t94 {L : Nat} {S : ov_S} {G : ov_L2} {x0 : Int32} {x1 : Int32} {x2 : Int32} {P : Option Value → ov_S → ov_L2 → Prop}  {out : Int32} (h : f94 x0 x1 x2 = some out) (hP : P (some (.int out)) S G) : ov_J L 1 94 0 [some (.int x0), some (.int x1), some (.int x2), none, none] [] S G P := by
  unfold f94 at h
  refine ev_iload_n od_94_0 rfl ?_
  obtain ⟨y1, hy1, h⟩ := ov_bd h
  try dsimp only at h
  refine ev_csi (y := 24) (n := 1) (as := [.int x0]) (rest := []) (dc := 1) oc_94_1 rfl rfl rfl rfl rfl (by decide) (R24  hy1) ?_
  refine ev_istore_n (lv1 := [some (.int x0), some (.int x1), some (.int x2), some (.int y1), none]) od_94_4 rfl rfl ?_
  refine ev_iconst (v := (0 : Int32)) od_94_5 (by decide) ?_
  refine ev_istore (lv1 := [some (.int x0), some (.int x1), some (.int x2), some (.int y1), some (.int (0 : Int32))]) od_94_6 rfl rfl ?_
  obtain ⟨e6, he6, h⟩ := ov_bd h
  try dsimp only at h
  refine ev_fg (lv0 := [none, some (.int x1), some (.int x2), some (.int y1), some (.int (0 : Int32))]) (ov_le_n (ov_le_s (ov_le_s (ov_le_s (ov_le_s (ov_le_e)))))) ?_
  refine ov_lp_S (body := (fun s => b94_8 x1 x2 s.1 s.2)) (head := (fun s => ov_J L 1 94 8 [none, some (.int x1), some (.int x2), some (.int s.1), some (.int s.2)] [] S G P)) (exit := (ov_sm (fun e => ov_J L 1 94 40 [none, none, none, none, none] [] S G P) (fun t => P (some (.int t)) S G))) (fun s r hb hk => bt94_8  hb hk) 2000 (y1, (0 : Int32)) e6 he6 ?_
  rcases e6 with e7 | t
  · try dsimp only at h
    show ov_J L 1 94 40 [none, none, none, none, none] [] S G P
    refine ev_bipush (v := (-9 : Int32)) od_94_40 (by decide) ?_
    cases h
    exact ev_iret od_94_42 rfl hP
  · cases h
    exact hP
theorem R94 {L : Nat} {S : ov_S} {G : ov_L2} {x0 : Int32} {x1 : Int32} {x2 : Int32}  {out : Int32} (h : f94 x0 x1 x2 = some out) : ov_R L 2 94 [.int x0, .int x1, .int x2] S G (some (.int out)) S G :=
  ov_Rof (t94  h ⟨rfl, rfl, rfl⟩)
-- 102 OE$Cells.least
def b102_2 (x0 : Int32) (x1 : Int32) : Option ((Int32) ⊕ ((Unit) ⊕ (Int32))) :=
  (if (18 : Int32) ≤ x1 then some (.inr (.inl ())) else (f23 x0 x1).bind fun y1 => (if y1 = 0 then some (.inl (x1 + (1 : Int32))) else some (.inr (.inr x1))))
theorem bt102_2 {L : Nat} {S : ov_S} {G : ov_L2} {x0 : Int32} {x1 : Int32} {P : Option Value → ov_S → ov_L2 → Prop}  {out : (Int32) ⊕ ((Unit) ⊕ (Int32))} (h : b102_2 x0 x1 = some out) (hk : ov_sm (σ := Int32) (ε := ((Unit) ⊕ (Int32))) (fun s => ov_J L 1 102 2 [some (.int x0), some (.int s)] [] S G P) (ov_sm (fun e => ov_J L 1 102 24 [none, none] [] S G P) (fun t => P (some (.int t)) S G)) out) : ov_J L 1 102 2 [some (.int x0), some (.int x1)] [] S G P := by
  unfold b102_2 at h
  refine ev_iload_n od_102_2 rfl ?_
  refine ev_bipush (v := (18 : Int32)) od_102_3 (by decide) ?_
  refine ev_icmp_ge (t := 24) od_102_5 (by decide) (fun hc3 => ?_) (fun hc3 => ?_)
  · rw [if_pos hc3] at h
    cases h
    refine ev_fg (lv0 := [none, none]) (ov_le_n (ov_le_n (ov_le_e))) ?_
    exact hk
  · rw [if_neg hc3] at h
    refine ev_iload_n od_102_8 rfl ?_
    refine ev_iload_n od_102_9 rfl ?_
    obtain ⟨y1, hy1, h⟩ := ov_bd h
    try dsimp only at h
    refine ev_csi (y := 23) (n := 2) (as := [.int x0, .int x1]) (rest := []) (dc := 1) oc_102_10 rfl rfl rfl rfl rfl (by decide) (R23  hy1) ?_
    refine ev_if_eq (t := 18) od_102_13 (by decide) (fun hc2 => ?_) (fun hc2 => ?_)
    · rw [if_pos hc2] at h
      refine ev_iinc (v := (x1 + (1 : Int32))) (lv1 := [some (.int x0), some (.int (x1 + (1 : Int32)))]) od_102_18 rfl rfl rfl ?_
      refine ev_goto (t := 2) od_102_21 (by decide) ?_
      cases h
      exact hk
    · rw [if_neg hc2] at h
      refine ev_iload_n od_102_16 rfl ?_
      cases h
      exact ev_iret od_102_17 rfl hk
def f102 (x0 : Int32) : Option (Int32) :=
  ((ov_lp (fun s => b102_2 x0 s) 2000 (0 : Int32)).bind fun e4 => match e4 with | .inl e5 => some (-9 : Int32) | .inr t => some t)
theorem t102 {L : Nat} {S : ov_S} {G : ov_L2} {x0 : Int32} {P : Option Value → ov_S → ov_L2 → Prop}  {out : Int32} (h : f102 x0 = some out) (hP : P (some (.int out)) S G) : ov_J L 1 102 0 [some (.int x0), none] [] S G P := by
  unfold f102 at h
  refine ev_iconst (v := (0 : Int32)) od_102_0 (by decide) ?_
  refine ev_istore_n (lv1 := [some (.int x0), some (.int (0 : Int32))]) od_102_1 rfl rfl ?_
  obtain ⟨e4, he4, h⟩ := ov_bd h
  try dsimp only at h
  refine ov_lp_S (body := (fun s => b102_2 x0 s)) (head := (fun s => ov_J L 1 102 2 [some (.int x0), some (.int s)] [] S G P)) (exit := (ov_sm (fun e => ov_J L 1 102 24 [none, none] [] S G P) (fun t => P (some (.int t)) S G))) (fun s r hb hk => bt102_2  hb hk) 2000 (0 : Int32) e4 he4 ?_
  rcases e4 with e5 | t
  · try dsimp only at h
    show ov_J L 1 102 24 [none, none] [] S G P
    refine ev_bipush (v := (-9 : Int32)) od_102_24 (by decide) ?_
    cases h
    exact ev_iret od_102_26 rfl hP
  · cases h
    exact hP
theorem R102 {L : Nat} {S : ov_S} {G : ov_L2} {x0 : Int32}  {out : Int32} (h : f102 x0 = some out) : ov_R L 2 102 [.int x0] S G (some (.int out)) S G :=
  ov_Rof (t102  h ⟨rfl, rfl, rfl⟩)
-- 119 OE$Fractions.half
def f119_29 (x5 : Int64) (s0 : Int64) : Option (Int32) :=
  ov_ck (ov_nzl x5) (some ((s0 / x5)).toInt32)
theorem t119_29 {L : Nat} {S : ov_S} {G : ov_L2} {x5 : Int64} {s0 : Int64} {P : Option Value → ov_S → ov_L2 → Prop}  {out : Int32} (h : f119_29 x5 s0 = some out) (hP : P (some (.int out)) S G) : ov_J L 1 119 29 [none, none, none, none, none, some (.long x5), none] [.long s0] S G P := by
  unfold f119_29 at h
  refine ev_lload od_119_29 rfl ?_
  obtain ⟨bq2, h⟩ := ov_ck_ok h
  refine ev_ldiv od_119_31 (ov_nzlk bq2) ?_
  refine ev_l2i od_119_32 ?_
  cases h
  exact ev_iret od_119_33 rfl hP
def f119 (x0 : Int64) (x2 : Int64) (x4 : Int32) : Option (Int32) :=
  (f121 (if 0 < x0 then x0 else -x0) x2).bind fun y1 => (if (lg_cmp y1 (0 : Int64)) = 0 then some (0 : Int32) else (if x4 = 0 then f119_29 y1 x2 else f119_29 y1 x0))
theorem t119 {L : Nat} {S : ov_S} {G : ov_L2} {x0 : Int64} {x2 : Int64} {x4 : Int32} {P : Option Value → ov_S → ov_L2 → Prop}  {out : Int32} (h : f119 x0 x2 x4 = some out) (hP : P (some (.int out)) S G) : ov_J L 1 119 0 [some (.long x0), none, some (.long x2), none, some (.int x4), none, none] [] S G P := by
  unfold f119 at h
  refine ev_lload_n od_119_0 rfl ?_
  refine ev_mabsl ox_119_1 rfl ?_
  refine ev_lload_n od_119_4 rfl ?_
  obtain ⟨y1, hy1, h⟩ := ov_bd h
  try dsimp only at h
  refine ev_csl (y := 121) (n := 2) (as := [.long (if 0 < x0 then x0 else -x0), .long x2]) (rest := []) (dc := 1) oc_119_5 rfl rfl rfl rfl rfl (by decide) (R121  hy1) ?_
  refine ev_lstore (lv1 := [some (.long x0), none, some (.long x2), none, some (.int x4), some (.long y1), none]) od_119_8 rfl rfl ?_
  refine ev_lload od_119_10 rfl ?_
  refine ev_lconst (v := (0 : Int64)) od_119_12 (by decide) ?_
  refine ev_lcmp od_119_13 ?_
  refine ev_if_ne (t := 19) od_119_14 (by decide) (fun hc4 => ?_) (fun hc4 => ?_)
  · rw [if_neg hc4] at h
    refine ev_iload od_119_19 rfl ?_
    refine ev_if_eq (t := 28) od_119_21 (by decide) (fun hc3 => ?_) (fun hc3 => ?_)
    · rw [if_pos hc3] at h
      refine ev_lload_n od_119_28 rfl ?_
      refine ev_fg (lv0 := [none, none, none, none, none, some (.long y1), none]) (ov_le_n (ov_le_n (ov_le_n (ov_le_n (ov_le_n (ov_le_s (ov_le_n (ov_le_e)))))))) ?_
      exact t119_29  h hP
    · rw [if_neg hc3] at h
      refine ev_lload_n od_119_24 rfl ?_
      refine ev_goto (t := 29) od_119_25 (by decide) ?_
      refine ev_fg (lv0 := [none, none, none, none, none, some (.long y1), none]) (ov_le_n (ov_le_n (ov_le_n (ov_le_n (ov_le_n (ov_le_s (ov_le_n (ov_le_e)))))))) ?_
      exact t119_29  h hP
  · rw [if_pos hc4] at h
    refine ev_iconst (v := (0 : Int32)) od_119_17 (by decide) ?_
    cases h
    exact ev_iret od_119_18 rfl hP
theorem R119 {L : Nat} {S : ov_S} {G : ov_L2} {x0 : Int64} {x2 : Int64} {x4 : Int32}  {out : Int32} (h : f119 x0 x2 x4 = some out) : ov_R L 2 119 [.long x0, .long x2, .int x4] S G (some (.int out)) S G :=
  ov_Rof (t119  h ⟨rfl, rfl, rfl⟩)
