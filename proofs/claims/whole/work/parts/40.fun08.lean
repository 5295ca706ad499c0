-- 164 OEModel.isHeard
def f164 (p1 : Nat) (S : ov_S) (x2 : Int32) : Option (Int32) :=
  ov_ck (ov_ibb (6 : Int32) (ov_ln p1)) ((f152 (S p1 ((6 : Int32)).toNatClampNeg) x2).bind fun y2 => (if y2 = 0 then ov_ck (ov_ibb x2 6) (ov_ck (ov_ibb x2 6) ((f165 p1 S (S 47 (x2).toNatClampNeg) (S 48 (x2).toNatClampNeg)).bind fun y5 => (if y5 = 0 then some (1 : Int32) else some (0 : Int32)))) else some (0 : Int32)))
theorem t164 {L : Nat} {S : ov_S} {G : ov_L2} {p1 : Nat} {x2 : Int32} {P : Option Value → ov_S → ov_L2 → Prop} (hp1 : ov_A 1 p1) {out : Int32} (h : f164 p1 S x2 = some out) (hP : P (some (.int out)) S G) : ov_J L 3 164 0 [some (.ref 42), some (.ref p1), some (.int x2)] [] S G P := by
  unfold f164 at h
  refine ev_aload_n od_164_0 rfl ?_
  refine ev_bipush (v := (6 : Int32)) od_164_1 (by decide) ?_
  obtain ⟨bq1, h⟩ := ov_ck_ok h
  refine ev_iald od_164_3 hp1 (ov_ibk bq1) ?_
  refine ev_iload_n od_164_4 rfl ?_
  obtain ⟨y2, hy2, h⟩ := ov_bd h
  try dsimp only at h
  refine ev_csi (y := 152) (n := 2) (as := [.int (S p1 ((6 : Int32)).toNatClampNeg), .int x2]) (rest := []) (dc := 1) oc_164_5 rfl rfl rfl rfl rfl (by decide) (R152  hy2) ?_
  refine ev_if_ne (t := 35) od_164_8 (by decide) (fun hc7 => ?_) (fun hc7 => ?_)
  · rw [if_neg hc7] at h
    refine ev_iconst (v := (0 : Int32)) od_164_35 (by decide) ?_
    cases h
    exact ev_zret od_164_36 rfl (by decide) hP
  · rw [if_pos hc7] at h
    refine ev_aload_n od_164_11 rfl ?_
    refine ev_aload_n od_164_12 rfl ?_
    refine ev_aload_n od_164_13 rfl ?_
    refine ev_gf (v := .ref 47) og_164_14 oO_42 rfl ?_
    refine ev_iload_n od_164_17 rfl ?_
    obtain ⟨bq3, h⟩ := ov_ck_ok h
    refine ev_iald od_164_18 oA_47 (ov_ibk bq3) ?_
    refine ev_aload_n od_164_19 rfl ?_
    refine ev_gf (v := .ref 48) og_164_20 oO_42 rfl ?_
    refine ev_iload_n od_164_23 rfl ?_
    obtain ⟨bq4, h⟩ := ov_ck_ok h
    refine ev_iald od_164_24 oA_48 (ov_ibk bq4) ?_
    obtain ⟨y5, hy5, h⟩ := ov_bd h
    try dsimp only at h
    refine ev_cvi (y := 165) (n := 3) (a := 42) (c := 8) (as := [.ref p1, .int (S 47 (x2).toNatClampNeg), .int (S 48 (x2).toNatClampNeg)]) (rest := []) (dc := 3) oc_164_25 rfl rfl rfl oO_42 rfl rfl rfl rfl (by decide) (R165 hp1 hy5) ?_
    refine ev_if_ne (t := 35) od_164_28 (by decide) (fun hc6 => ?_) (fun hc6 => ?_)
    · rw [if_neg hc6] at h
      refine ev_iconst (v := (0 : Int32)) od_164_35 (by decide) ?_
      cases h
      exact ev_zret od_164_36 rfl (by decide) hP
    · rw [if_pos hc6] at h
      refine ev_iconst (v := (1 : Int32)) od_164_31 (by decide) ?_
      refine ev_goto (t := 36) od_164_32 (by decide) ?_
      cases h
      exact ev_zret od_164_36 rfl (by decide) hP
theorem R164 {L : Nat} {S : ov_S} {G : ov_L2} {p1 : Nat} {x2 : Int32} (hp1 : ov_A 1 p1) {out : Int32} (h : f164 p1 S x2 = some out) : ov_R L 4 164 [.ref 42, .ref p1, .int x2] S G (some (.int out)) S G :=
  ov_Rof (t164 hp1 h ⟨rfl, rfl, rfl⟩)
-- 176 OEModel.sights
def f176_38_4 (S : ov_S) (x1 : Int32) (x3 : Int32) (s0 : Int32) (s1 : Int32) : Option ((Int32 × Int32) ⊕ (Int32)) :=
  some (.inl ((s1 ||| s0), (x3 + (1 : Int32))))
theorem t176_38_4 {L : Nat} {S : ov_S} {G : ov_L2} {x1 : Int32} {x3 : Int32} {s0 : Int32} {s1 : Int32} {P : Option Value → ov_S → ov_L2 → Prop}  {out : (Int32 × Int32) ⊕ (Int32)} (h : f176_38_4 S x1 x3 s0 s1 = some out) (hk : ov_sm (σ := Int32 × Int32) (ε := (Int32)) (fun s => ov_J L 3 176 4 [some (.ref 42), some (.int x1), some (.int s.1), some (.int s.2)] [] S G P) (fun e => ov_J L 3 176 46 [none, none, some (.int e), none] [] S G P) out) : ov_J L 3 176 38 [some (.ref 42), some (.int x1), none, some (.int x3)] [.int s0, .int s1] S G P := by
  unfold f176_38_4 at h
  refine ev_ior od_176_38 ?_
  refine ev_istore_n (lv1 := [some (.ref 42), some (.int x1), some (.int (s1 ||| s0)), some (.int x3)]) od_176_39 rfl rfl ?_
  refine ev_iinc (v := (x3 + (1 : Int32))) (lv1 := [some (.ref 42), some (.int x1), some (.int (s1 ||| s0)), some (.int (x3 + (1 : Int32)))]) od_176_40 rfl rfl rfl ?_
  refine ev_goto (t := 4) od_176_43 (by decide) ?_
  cases h
  exact hk
def f176_37_4 (S : ov_S) (x1 : Int32) (x3 : Int32) (s0 : Int32) : Option ((Int32 × Int32) ⊕ (Int32)) :=
  f176_38_4 S x1 x3 (0 : Int32) s0
theorem t176_37_4 {L : Nat} {S : ov_S} {G : ov_L2} {x1 : Int32} {x3 : Int32} {s0 : Int32} {P : Option Value → ov_S → ov_L2 → Prop}  {out : (Int32 × Int32) ⊕ (Int32)} (h : f176_37_4 S x1 x3 s0 = some out) (hk : ov_sm (σ := Int32 × Int32) (ε := (Int32)) (fun s => ov_J L 3 176 4 [some (.ref 42), some (.int x1), some (.int s.1), some (.int s.2)] [] S G P) (fun e => ov_J L 3 176 46 [none, none, some (.int e), none] [] S G P) out) : ov_J L 3 176 37 [some (.ref 42), some (.int x1), none, some (.int x3)] [.int s0] S G P := by
  unfold f176_37_4 at h
  refine ev_iconst (v := (0 : Int32)) od_176_37 (by decide) ?_
  exact t176_38_4  h hk
def b176_4 (S : ov_S) (x1 : Int32) (x2 : Int32) (x3 : Int32) : Option ((Int32 × Int32) ⊕ (Int32)) :=
  (if (S 42 7) ≤ x3 then some (.inr x2) else (if x3 = x1 then f176_37_4 S x1 x3 x2 else (f165 55 S x1 x3).bind fun y1 => (if y1 = 0 then f176_38_4 S x1 x3 ((1 : Int32) <<< (x3 &&& 31)) x2 else f176_37_4 S x1 x3 x2)))
theorem bt176_4 {L : Nat} {S : ov_S} {G : ov_L2} {x1 : Int32} {x2 : Int32} {x3 : Int32} {P : Option Value → ov_S → ov_L2 → Prop}  {out : (Int32 × Int32) ⊕ (Int32)} (h : b176_4 S x1 x2 x3 = some out) (hk : ov_sm (σ := Int32 × Int32) (ε := (Int32)) (fun s => ov_J L 3 176 4 [some (.ref 42), some (.int x1), some (.int s.1), some (.int s.2)] [] S G P) (fun e => ov_J L 3 176 46 [none, none, some (.int e), none] [] S G P) out) : ov_J L 3 176 4 [some (.ref 42), some (.int x1), some (.int x2), some (.int x3)] [] S G P := by
  unfold b176_4 at h
  refine ev_iload_n od_176_4 rfl ?_
  refine ev_aload_n od_176_5 rfl ?_
  refine ev_gf (v := .int (S 42 7)) og_176_6 oO_42 rfl ?_
  refine ev_icmp_ge (t := 46) od_176_9 (by decide) (fun hc4 => ?_) (fun hc4 => ?_)
  · rw [if_pos hc4] at h
    cases h
    refine ev_fg (lv0 := [none, none, some (.int x2), none]) (ov_le_n (ov_le_n (ov_le_s (ov_le_n (ov_le_e))))) ?_
    exact hk
  · rw [if_neg hc4] at h
    refine ev_iload_n od_176_12 rfl ?_
    refine ev_iload_n od_176_13 rfl ?_
    refine ev_iload_n od_176_14 rfl ?_
    refine ev_icmp_eq (t := 37) od_176_15 (by decide) (fun hc3 => ?_) (fun hc3 => ?_)
    · rw [if_pos hc3] at h
      refine ev_fg (lv0 := [some (.ref 42), some (.int x1), none, some (.int x3)]) (ov_le_s (ov_le_s (ov_le_n (ov_le_s (ov_le_e))))) ?_
      exact t176_37_4  h hk
    · rw [if_neg hc3] at h
      refine ev_aload_n od_176_18 rfl ?_
      refine ev_aload_n od_176_19 rfl ?_
      refine ev_gf (v := .ref 55) og_176_20 oO_42 rfl ?_
      refine ev_iload_n od_176_23 rfl ?_
      refine ev_iload_n od_176_24 rfl ?_
      obtain ⟨y1, hy1, h⟩ := ov_bd h
      try dsimp only at h
      refine ev_cvi (y := 165) (n := 3) (a := 42) (c := 8) (as := [.ref 55, .int x1, .int x3]) (rest := [.int x2]) (dc := 3) oc_176_25 rfl rfl rfl oO_42 rfl rfl rfl rfl (by decide) (R165 oA_55 hy1) ?_
      refine ev_if_ne (t := 37) od_176_28 (by decide) (fun hc2 => ?_) (fun hc2 => ?_)
      · rw [if_neg hc2] at h
        refine ev_fg (lv0 := [some (.ref 42), some (.int x1), none, some (.int x3)]) (ov_le_s (ov_le_s (ov_le_n (ov_le_s (ov_le_e))))) ?_
        exact t176_37_4  h hk
      · rw [if_pos hc2] at h
        refine ev_iconst (v := (1 : Int32)) od_176_31 (by decide) ?_
        refine ev_iload_n od_176_32 rfl ?_
        refine ev_ishl od_176_33 ?_
        refine ev_goto (t := 38) od_176_34 (by decide) ?_
        refine ev_fg (lv0 := [some (.ref 42), some (.int x1), none, some (.int x3)]) (ov_le_s (ov_le_s (ov_le_n (ov_le_s (ov_le_e))))) ?_
        exact t176_38_4  h hk
def f176 (S : ov_S) (x1 : Int32) : Option (Int32) :=
  ((ov_lp (fun s => b176_4 S x1 s.1 s.2) 2000 ((0 : Int32), (0 : Int32))).bind fun e5 => some e5)
theorem t176 {L : Nat} {S : ov_S} {G : ov_L2} {x1 : Int32} {P : Option Value → ov_S → ov_L2 → Prop}  {out : Int32} (h : f176 S x1 = some out) (hP : P (some (.int out)) S G) : ov_J L 3 176 0 [some (.ref 42), some (.int x1), none, none] [] S G P := by
  unfold f176 at h
  refine ev_iconst (v := (0 : Int32)) od_176_0 (by decide) ?_
  refine ev_istore_n (lv1 := [some (.ref 42), some (.int x1), some (.int (0 : Int32)), none]) od_176_1 rfl rfl ?_
  refine ev_iconst (v := (0 : Int32)) od_176_2 (by decide) ?_
  refine ev_istore_n (lv1 := [some (.ref 42), some (.int x1), some (.int (0 : Int32)), some (.int (0 : Int32))]) od_176_3 rfl rfl ?_
  obtain ⟨e5, he5, h⟩ := ov_bd h
  try dsimp only at h
  refine ov_lp_S (body := (fun s => b176_4 S x1 s.1 s.2)) (head := (fun s => ov_J L 3 176 4 [some (.ref 42), some (.int x1), some (.int s.1), some (.int s.2)] [] S G P)) (exit := (fun e => ov_J L 3 176 46 [none, none, some (.int e), none] [] S G P)) (fun s r hb hk => bt176_4  hb hk) 2000 ((0 : Int32), (0 : Int32)) e5 he5 ?_
  show ov_J L 3 176 46 [none, none, some (.int e5), none] [] S G P
  refine ev_iload_n od_176_46 rfl ?_
  cases h
  exact ev_iret od_176_47 rfl hP
theorem R176 {L : Nat} {S : ov_S} {G : ov_L2} {x1 : Int32}  {out : Int32} (h : f176 S x1 = some out) : ov_R L 4 176 [.ref 42, .int x1] S G (some (.int out)) S G :=
  ov_Rof (t176  h ⟨rfl, rfl, rfl⟩)
-- 177 OEModel.reached
def f177_51_28 (S : ov_S) (x3 : Int32) (s0 : Int32) (s1 : Int32) : Option ((Int32 × Int32) ⊕ (Int32)) :=
  some (.inl ((s1 + s0), (x3 + (1 : Int32))))
theorem t177_51_28 {L : Nat} {S : ov_S} {G : ov_L2} {x3 : Int32} {s0 : Int32} {s1 : Int32} {P : Option Value → ov_S → ov_L2 → Prop}  {out : (Int32 × Int32) ⊕ (Int32)} (h : f177_51_28 S x3 s0 s1 = some out) (hk : ov_sm (σ := Int32 × Int32) (ε := (Int32)) (fun s => ov_J L 3 177 28 [some (.ref 42), none, some (.int s.1), some (.int s.2)] [] S G P) (fun e => ov_J L 3 177 59 [none, none, some (.int e), none] [] S G P) out) : ov_J L 3 177 51 [some (.ref 42), none, none, some (.int x3)] [.int s0, .int s1] S G P := by
  unfold f177_51_28 at h
  refine ev_iadd od_177_51 ?_
  refine ev_istore_n (lv1 := [some (.ref 42), none, some (.int (s1 + s0)), some (.int x3)]) od_177_52 rfl rfl ?_
  refine ev_iinc (v := (x3 + (1 : Int32))) (lv1 := [some (.ref 42), none, some (.int (s1 + s0)), some (.int (x3 + (1 : Int32)))]) od_177_53 rfl rfl rfl ?_
  refine ev_goto (t := 28) od_177_56 (by decide) ?_
  cases h
  exact hk
def b177_28 (S : ov_S) (x2 : Int32) (x3 : Int32) : Option ((Int32 × Int32) ⊕ (Int32)) :=
  (if (18 : Int32) ≤ x3 then some (.inr x2) else ov_ck (ov_ibb x3 18) ((if (S 63 (x3).toNatClampNeg) = (-9 : Int32) then f177_51_28 S x3 (0 : Int32) x2 else f177_51_28 S x3 (1 : Int32) x2)))
theorem bt177_28 {L : Nat} {S : ov_S} {G : ov_L2} {x2 : Int32} {x3 : Int32} {P : Option Value → ov_S → ov_L2 → Prop}  {out : (Int32 × Int32) ⊕ (Int32)} (h : b177_28 S x2 x3 = some out) (hk : ov_sm (σ := Int32 × Int32) (ε := (Int32)) (fun s => ov_J L 3 177 28 [some (.ref 42), none, some (.int s.1), some (.int s.2)] [] S G P) (fun e => ov_J L 3 177 59 [none, none, some (.int e), none] [] S G P) out) : ov_J L 3 177 28 [some (.ref 42), none, some (.int x2), some (.int x3)] [] S G P := by
  unfold b177_28 at h
  refine ev_iload_n od_177_28 rfl ?_
  refine ev_bipush (v := (18 : Int32)) od_177_29 (by decide) ?_
  refine ev_icmp_ge (t := 59) od_177_31 (by decide) (fun hc5 => ?_) (fun hc5 => ?_)
  · rw [if_pos hc5] at h
    cases h
    refine ev_fg (lv0 := [none, none, some (.int x2), none]) (ov_le_n (ov_le_n (ov_le_s (ov_le_n (ov_le_e))))) ?_
    exact hk
  · rw [if_neg hc5] at h
    refine ev_iload_n od_177_34 rfl ?_
    refine ev_aload_n od_177_35 rfl ?_
    refine ev_gf (v := .ref 63) og_177_36 oO_42 rfl ?_
    refine ev_iload_n od_177_39 rfl ?_
    obtain ⟨bq3, h⟩ := ov_ck_ok h
    refine ev_iald od_177_40 oA_63 (ov_ibk bq3) ?_
    refine ev_bipush (v := (-9 : Int32)) od_177_41 (by decide) ?_
    refine ev_icmp_ne (t := 50) od_177_43 (by decide) (fun hc4 => ?_) (fun hc4 => ?_)
    · rw [if_neg hc4] at h
      refine ev_iconst (v := (1 : Int32)) od_177_50 (by decide) ?_
      refine ev_fg (lv0 := [some (.ref 42), none, none, some (.int x3)]) (ov_le_s (ov_le_n (ov_le_n (ov_le_s (ov_le_e))))) ?_
      exact t177_51_28  h hk
    · rw [if_pos hc4] at h
      refine ev_iconst (v := (0 : Int32)) od_177_46 (by decide) ?_
      refine ev_goto (t := 51) od_177_47 (by decide) ?_
      refine ev_fg (lv0 := [some (.ref 42), none, none, some (.int x3)]) (ov_le_s (ov_le_n (ov_le_n (ov_le_s (ov_le_e))))) ?_
      exact t177_51_28  h hk
def f177 (S : ov_S) (x1 : Int32) : Option (Int32 × ov_S) :=
  ov_ck (ov_ibb ((0 : Int32) + x1) 12) ((if (S 55 (((0 : Int32) + x1)).toNatClampNeg) = (-9 : Int32) then some ((0 : Int32), S) else (f178 55 S x1).bind fun y2 => ((ov_lp (fun s => b177_28 y2 s.1 s.2) 2000 ((0 : Int32), (0 : Int32))).bind fun e6 => some (e6, y2))))
theorem t177 {L : Nat} {S : ov_S} {G : ov_L2} {x1 : Int32} {P : Option Value → ov_S → ov_L2 → Prop}  {out : Int32 × ov_S} (h : f177 S x1 = some out) (hP : P (some (.int out.1)) out.2 G) : ov_J L 3 177 0 [some (.ref 42), some (.int x1), none, none] [] S G P := by
  unfold f177 at h
  refine ev_aload_n od_177_0 rfl ?_
  refine ev_gf (v := .ref 55) og_177_1 oO_42 rfl ?_
  refine ev_iconst (v := (0 : Int32)) od_177_4 (by decide) ?_
  refine ev_iload_n od_177_5 rfl ?_
  refine ev_iadd od_177_6 ?_
  obtain ⟨bq1, h⟩ := ov_ck_ok h
  refine ev_iald od_177_7 oA_55 (ov_ibk bq1) ?_
  refine ev_bipush (v := (-9 : Int32)) od_177_8 (by decide) ?_
  refine ev_icmp_ne (t := 15) od_177_10 (by decide) (fun hc7 => ?_) (fun hc7 => ?_)
  · rw [if_neg hc7] at h
    refine ev_aload_n od_177_15 rfl ?_
    refine ev_aload_n od_177_16 rfl ?_
    refine ev_gf (v := .ref 55) og_177_17 oO_42 rfl ?_
    refine ev_iload_n od_177_20 rfl ?_
    obtain ⟨y2, hy2, h⟩ := ov_bd h
    try dsimp only at h
    refine ev_cvv (y := 178) (n := 2) (a := 42) (c := 8) (as := [.ref 55, .int x1]) (rest := []) (dc := 3) oc_177_21 rfl rfl rfl oO_42 rfl rfl rfl rfl (by decide) (R178 oA_55 hy2) ?_
    refine ev_iconst (v := (0 : Int32)) od_177_24 (by decide) ?_
    refine ev_istore_n (lv1 := [some (.ref 42), some (.int x1), some (.int (0 : Int32)), none]) od_177_25 rfl rfl ?_
    refine ev_iconst (v := (0 : Int32)) od_177_26 (by decide) ?_
    refine ev_istore_n (lv1 := [some (.ref 42), some (.int x1), some (.int (0 : Int32)), some (.int (0 : Int32))]) od_177_27 rfl rfl ?_
    obtain ⟨e6, he6, h⟩ := ov_bd h
    try dsimp only at h
    refine ev_fg (lv0 := [some (.ref 42), none, some (.int (0 : Int32)), some (.int (0 : Int32))]) (ov_le_s (ov_le_n (ov_le_s (ov_le_s (ov_le_e))))) ?_
    refine ov_lp_S (body := (fun s => b177_28 y2 s.1 s.2)) (head := (fun s => ov_J L 3 177 28 [some (.ref 42), none, some (.int s.1), some (.int s.2)] [] y2 G P)) (exit := (fun e => ov_J L 3 177 59 [none, none, some (.int e), none] [] y2 G P)) (fun s r hb hk => bt177_28  hb hk) 2000 ((0 : Int32), (0 : Int32)) e6 he6 ?_
    show ov_J L 3 177 59 [none, none, some (.int e6), none] [] y2 G P
    refine ev_iload_n od_177_59 rfl ?_
    cases h
    exact ev_iret od_177_60 rfl hP
  · rw [if_pos hc7] at h
    refine ev_iconst (v := (0 : Int32)) od_177_13 (by decide) ?_
    cases h
    exact ev_iret od_177_14 rfl hP
theorem R177 {L : Nat} {S : ov_S} {G : ov_L2} {x1 : Int32}  {out : Int32 × ov_S} (h : f177 S x1 = some out) : ov_R L 4 177 [.ref 42, .int x1] S G (some (.int out.1)) out.2 G :=
  ov_Rof (t177  h ⟨rfl, rfl, rfl⟩)
-- 185 OEModel.canEnter
def f185 (p1 : Nat) (S : ov_S) (x2 : Int32) (x3 : Int32) : Option (Int32) :=
  ov_ck (ov_ibb ((0 : Int32) + x2) (ov_ln p1)) ((if (S p1 (((0 : Int32) + x2)).toNatClampNeg) = (-9 : Int32) then ov_ck (ov_ibb x3 3) ((f186 p1 S (S 44 (x3).toNatClampNeg)).bind fun y3 => (if y3 = 0 then some (0 : Int32) else some (1 : Int32))) else some (0 : Int32)))
theorem t185 {L : Nat} {S : ov_S} {G : ov_L2} {p1 : Nat} {x2 : Int32} {x3 : Int32} {P : Option Value → ov_S → ov_L2 → Prop} (hp1 : ov_A 1 p1) {out : Int32} (h : f185 p1 S x2 x3 = some out) (hP : P (some (.int out)) S G) : ov_J L 3 185 0 [some (.ref 42), some (.ref p1), some (.int x2), some (.int x3)] [] S G P := by
  unfold f185 at h
  refine ev_aload_n od_185_0 rfl ?_
  refine ev_iconst (v := (0 : Int32)) od_185_1 (by decide) ?_
  refine ev_iload_n od_185_2 rfl ?_
  refine ev_iadd od_185_3 ?_
  obtain ⟨bq1, h⟩ := ov_ck_ok h
  refine ev_iald od_185_4 hp1 (ov_ibk bq1) ?_
  refine ev_bipush (v := (-9 : Int32)) od_185_5 (by decide) ?_
  refine ev_icmp_ne (t := 28) od_185_7 (by decide) (fun hc5 => ?_) (fun hc5 => ?_)
  · rw [if_neg hc5] at h
    refine ev_iconst (v := (0 : Int32)) od_185_28 (by decide) ?_
    cases h
    exact ev_zret od_185_29 rfl (by decide) hP
  · rw [if_pos hc5] at h
    refine ev_aload_n od_185_10 rfl ?_
    refine ev_aload_n od_185_11 rfl ?_
    refine ev_aload_n od_185_12 rfl ?_
    refine ev_gf (v := .ref 44) og_185_13 oO_42 rfl ?_
    refine ev_iload_n od_185_16 rfl ?_
    obtain ⟨bq2, h⟩ := ov_ck_ok h
    refine ev_iald od_185_17 oA_44 (ov_ibk bq2) ?_
    obtain ⟨y3, hy3, h⟩ := ov_bd h
    try dsimp only at h
    refine ev_cvi (y := 186) (n := 2) (a := 42) (c := 8) (as := [.ref p1, .int (S 44 (x3).toNatClampNeg)]) (rest := []) (dc := 3) oc_185_18 rfl rfl rfl oO_42 rfl rfl rfl rfl (by decide) (R186 hp1 hy3) ?_
    refine ev_if_eq (t := 28) od_185_21 (by decide) (fun hc4 => ?_) (fun hc4 => ?_)
    · rw [if_pos hc4] at h
      refine ev_iconst (v := (0 : Int32)) od_185_28 (by decide) ?_
      cases h
      exact ev_zret od_185_29 rfl (by decide) hP
    · rw [if_neg hc4] at h
      refine ev_iconst (v := (1 : Int32)) od_185_24 (by decide) ?_
      refine ev_goto (t := 29) od_185_25 (by decide) ?_
      cases h
      exact ev_zret od_185_29 rfl (by decide) hP
theorem R185 {L : Nat} {S : ov_S} {G : ov_L2} {p1 : Nat} {x2 : Int32} {x3 : Int32} (hp1 : ov_A 1 p1) {out : Int32} (h : f185 p1 S x2 x3 = some out) : ov_R L 4 185 [.ref 42, .ref p1, .int x2, .int x3] S G (some (.int out)) S G :=
  ov_Rof (t185 hp1 h ⟨rfl, rfl, rfl⟩)
-- 189 OEModel.walkTo
def f189 (p1 : Nat) (S : ov_S) (x2 : Int32) (x3 : Int32) : Option (Int32) :=
  ov_ck (ov_ibb ((0 : Int32) + x2) (ov_ln p1)) ((if (S p1 (((0 : Int32) + x2)).toNatClampNeg) = (-9 : Int32) then some (-9 : Int32) else ov_ck (ov_ibb x2 6) ((if (S 46 (x2).toNatClampNeg) = (1 : Int32) then some (-9 : Int32) else ov_ck (ov_ibb ((0 : Int32) + x2) (ov_ln p1)) ((f180 (S p1 (((0 : Int32) + x2)).toNatClampNeg) x3).bind fun y4 => (if y4 = (-9 : Int32) then some (-9 : Int32) else (f186 p1 S y4).bind fun y5 => (if y5 = 0 then some (-9 : Int32) else some y4)))))))
theorem t189 {L : Nat} {S : ov_S} {G : ov_L2} {p1 : Nat} {x2 : Int32} {x3 : Int32} {P : Option Value → ov_S → ov_L2 → Prop} (hp1 : ov_A 1 p1) {out : Int32} (h : f189 p1 S x2 x3 = some out) (hP : P (some (.int out)) S G) : ov_J L 3 189 0 [some (.ref 42), some (.ref p1), some (.int x2), some (.int x3), none] [] S G P := by
  unfold f189 at h
  refine ev_aload_n od_189_0 rfl ?_
  refine ev_iconst (v := (0 : Int32)) od_189_1 (by decide) ?_
  refine ev_iload_n od_189_2 rfl ?_
  refine ev_iadd od_189_3 ?_
  obtain ⟨bq1, h⟩ := ov_ck_ok h
  refine ev_iald od_189_4 hp1 (ov_ibk bq1) ?_
  refine ev_bipush (v := (-9 : Int32)) od_189_5 (by decide) ?_
  refine ev_icmp_eq (t := 20) od_189_7 (by decide) (fun hc9 => ?_) (fun hc9 => ?_)
  · rw [if_pos hc9] at h
    refine ev_bipush (v := (-9 : Int32)) od_189_20 (by decide) ?_
    cases h
    exact ev_iret od_189_22 rfl hP
  · rw [if_neg hc9] at h
    refine ev_aload_n od_189_10 rfl ?_
    refine ev_gf (v := .ref 46) og_189_11 oO_42 rfl ?_
    refine ev_iload_n od_189_14 rfl ?_
    obtain ⟨bq2, h⟩ := ov_ck_ok h
    refine ev_iald od_189_15 oA_46 (ov_ibk bq2) ?_
    refine ev_iconst (v := (1 : Int32)) od_189_16 (by decide) ?_
    refine ev_icmp_ne (t := 23) od_189_17 (by decide) (fun hc8 => ?_) (fun hc8 => ?_)
    · rw [if_neg hc8] at h
      refine ev_aload_n od_189_23 rfl ?_
      refine ev_iconst (v := (0 : Int32)) od_189_24 (by decide) ?_
      refine ev_iload_n od_189_25 rfl ?_
      refine ev_iadd od_189_26 ?_
      obtain ⟨bq3, h⟩ := ov_ck_ok h
      refine ev_iald od_189_27 hp1 (ov_ibk bq3) ?_
      refine ev_iload_n od_189_28 rfl ?_
      obtain ⟨y4, hy4, h⟩ := ov_bd h
      try dsimp only at h
      refine ev_csi (y := 180) (n := 2) (as := [.int (S p1 (((0 : Int32) + x2)).toNatClampNeg), .int x3]) (rest := []) (dc := 1) oc_189_29 rfl rfl rfl rfl rfl (by decide) (R180  hy4) ?_
      refine ev_istore (lv1 := [some (.ref 42), some (.ref p1), some (.int x2), some (.int x3), some (.int y4)]) od_189_32 rfl rfl ?_
      refine ev_iload od_189_34 rfl ?_
      refine ev_bipush (v := (-9 : Int32)) od_189_36 (by decide) ?_
      refine ev_icmp_eq (t := 56) od_189_38 (by decide) (fun hc7 => ?_) (fun hc7 => ?_)
      · rw [if_pos hc7] at h
        refine ev_bipush (v := (-9 : Int32)) od_189_56 (by decide) ?_
        cases h
        exact ev_iret od_189_58 rfl hP
      · rw [if_neg hc7] at h
        refine ev_aload_n od_189_41 rfl ?_
        refine ev_aload_n od_189_42 rfl ?_
        refine ev_iload od_189_43 rfl ?_
        obtain ⟨y5, hy5, h⟩ := ov_bd h
        try dsimp only at h
        refine ev_cvi (y := 186) (n := 2) (a := 42) (c := 8) (as := [.ref p1, .int y4]) (rest := []) (dc := 3) oc_189_45 rfl rfl rfl oO_42 rfl rfl rfl rfl (by decide) (R186 hp1 hy5) ?_
        refine ev_if_eq (t := 56) od_189_48 (by decide) (fun hc6 => ?_) (fun hc6 => ?_)
        · rw [if_pos hc6] at h
          refine ev_bipush (v := (-9 : Int32)) od_189_56 (by decide) ?_
          cases h
          exact ev_iret od_189_58 rfl hP
        · rw [if_neg hc6] at h
          refine ev_iload od_189_51 rfl ?_
          refine ev_goto (t := 58) od_189_53 (by decide) ?_
          cases h
          exact ev_iret od_189_58 rfl hP
    · rw [if_pos hc8] at h
      refine ev_bipush (v := (-9 : Int32)) od_189_20 (by decide) ?_
      cases h
      exact ev_iret od_189_22 rfl hP
theorem R189 {L : Nat} {S : ov_S} {G : ov_L2} {p1 : Nat} {x2 : Int32} {x3 : Int32} (hp1 : ov_A 1 p1) {out : Int32} (h : f189 p1 S x2 x3 = some out) : ov_R L 4 189 [.ref 42, .ref p1, .int x2, .int x3] S G (some (.int out)) S G :=
  ov_Rof (t189 hp1 h ⟨rfl, rfl, rfl⟩)
-- 192 OEModel.shift
def f192 (S : ov_S) (x1 : Int32) (x2 : Int32) : Option (Int32 × ov_S) :=
  (f144 (x1).toInt64 (0 : Int64) ((((ov_up S 42 0 (0 : Int32)) 42 6) - (1 : Int32))).toInt64).bind fun y1 => (if y1 = 0 then some ((-1 : Int32), (ov_up S 42 0 (0 : Int32))) else (f193 x2).bind fun y2 => (if y2 = 0 then (f186 55 (ov_up S 42 0 (0 : Int32)) x2).bind fun y3 => (if y3 = 0 then some ((-3 : Int32), (ov_up S 42 0 (0 : Int32))) else (f194 (ov_up S 42 0 (0 : Int32)) x2).bind fun y4 => (if y4 = 0 then (f187 (ov_up S 42 0 (0 : Int32))).bind fun y5 => ov_ck (ov_ibb ((7 : Int32) + x1) 12) (ov_ck (ov_ibb ((7 : Int32) + x1) 12) (some ((y5 55 (((7 : Int32) + x1)).toNatClampNeg), (ov_up y5 55 (((7 : Int32) + x1)).toNatClampNeg x2)))) else some ((-3 : Int32), (ov_up S 42 0 (0 : Int32))))) else some ((-1 : Int32), (ov_up S 42 0 (0 : Int32)))))
theorem t192 {L : Nat} {S : ov_S} {G : ov_L2} {x1 : Int32} {x2 : Int32} {P : Option Value → ov_S → ov_L2 → Prop}  {out : Int32 × ov_S} (h : f192 S x1 x2 = some out) (hP : P (some (.int out.1)) out.2 G) : ov_J L 3 192 0 [some (.ref 42), some (.int x1), some (.int x2), none] [] S G P := by
  unfold f192 at h
  refine ev_aload_n od_192_0 rfl ?_
  refine ev_iconst (v := (0 : Int32)) od_192_1 (by decide) ?_
  refine ev_pf op_192_2 oO_42 rfl rfl ?_
  refine ev_iload_n od_192_5 rfl ?_
  refine ev_i2l od_192_6 ?_
  refine ev_lconst (v := (0 : Int64)) od_192_7 (by decide) ?_
  refine ev_aload_n od_192_8 rfl ?_
  refine ev_gf (v := .int ((ov_up S 42 0 (0 : Int32)) 42 6)) og_192_9 oO_42 rfl ?_
  refine ev_iconst (v := (1 : Int32)) od_192_12 (by decide) ?_
  refine ev_isub od_192_13 ?_
  refine ev_i2l od_192_14 ?_
  obtain ⟨y1, hy1, h⟩ := ov_bd h
  try dsimp only at h
  refine ev_csi (y := 144) (n := 3) (as := [.long (x1).toInt64, .long (0 : Int64), .long ((((ov_up S 42 0 (0 : Int32)) 42 6) - (1 : Int32))).toInt64]) (rest := []) (dc := 1) oc_192_15 rfl rfl rfl rfl rfl (by decide) (R144  hy1) ?_
  refine ev_if_eq (t := 28) od_192_18 (by decide) (fun hc11 => ?_) (fun hc11 => ?_)
  · rw [if_pos hc11] at h
    refine ev_iconst (v := (-1 : Int32)) od_192_28 (by decide) ?_
    cases h
    exact ev_iret od_192_29 rfl hP
  · rw [if_neg hc11] at h
    refine ev_iload_n od_192_21 rfl ?_
    obtain ⟨y2, hy2, h⟩ := ov_bd h
    try dsimp only at h
    refine ev_csi (y := 193) (n := 1) (as := [.int x2]) (rest := []) (dc := 2) oc_192_22 rfl rfl rfl rfl rfl (by decide) (R193  hy2) ?_
    refine ev_if_eq (t := 30) od_192_25 (by decide) (fun hc10 => ?_) (fun hc10 => ?_)
    · rw [if_pos hc10] at h
      refine ev_aload_n od_192_30 rfl ?_
      refine ev_aload_n od_192_31 rfl ?_
      refine ev_gf (v := .ref 55) og_192_32 oO_42 rfl ?_
      refine ev_iload_n od_192_35 rfl ?_
      obtain ⟨y3, hy3, h⟩ := ov_bd h
      try dsimp only at h
      refine ev_cvi (y := 186) (n := 2) (a := 42) (c := 8) (as := [.ref 55, .int x2]) (rest := []) (dc := 3) oc_192_36 rfl rfl rfl oO_42 rfl rfl rfl rfl (by decide) (R186 oA_55 hy3) ?_
      refine ev_if_eq (t := 50) od_192_39 (by decide) (fun hc9 => ?_) (fun hc9 => ?_)
      · rw [if_pos hc9] at h
        refine ev_bipush (v := (-3 : Int32)) od_192_50 (by decide) ?_
        cases h
        exact ev_iret od_192_52 rfl hP
      · rw [if_neg hc9] at h
        refine ev_aload_n od_192_42 rfl ?_
        refine ev_iload_n od_192_43 rfl ?_
        obtain ⟨y4, hy4, h⟩ := ov_bd h
        try dsimp only at h
        refine ev_cvi (y := 194) (n := 1) (a := 42) (c := 8) (as := [.int x2]) (rest := []) (dc := 1) oc_192_44 rfl rfl rfl oO_42 rfl rfl rfl rfl (by decide) (R194  hy4) ?_
        refine ev_if_eq (t := 53) od_192_47 (by decide) (fun hc8 => ?_) (fun hc8 => ?_)
        · rw [if_pos hc8] at h
          refine ev_aload_n od_192_53 rfl ?_
          obtain ⟨y5, hy5, h⟩ := ov_bd h
          try dsimp only at h
          refine ev_cvv (y := 187) (n := 0) (a := 42) (c := 8) (as := []) (rest := []) (dc := 1) oc_192_54 rfl rfl rfl oO_42 rfl rfl rfl rfl (by decide) (R187  hy5) ?_
          refine ev_aload_n od_192_57 rfl ?_
          refine ev_gf (v := .ref 55) og_192_58 oO_42 rfl ?_
          refine ev_bipush (v := (7 : Int32)) od_192_61 (by decide) ?_
          refine ev_iload_n od_192_63 rfl ?_
          refine ev_iadd od_192_64 ?_
          obtain ⟨bq6, h⟩ := ov_ck_ok h
          refine ev_iald od_192_65 oA_55 (ov_ibk bq6) ?_
          refine ev_istore_n (lv1 := [some (.ref 42), some (.int x1), some (.int x2), some (.int (y5 55 (((7 : Int32) + x1)).toNatClampNeg))]) od_192_66 rfl rfl ?_
          refine ev_aload_n od_192_67 rfl ?_
          refine ev_gf (v := .ref 55) og_192_68 oO_42 rfl ?_
          refine ev_bipush (v := (7 : Int32)) od_192_71 (by decide) ?_
          refine ev_iload_n od_192_73 rfl ?_
          refine ev_iadd od_192_74 ?_
          refine ev_iload_n od_192_75 rfl ?_
          obtain ⟨bq7, h⟩ := ov_ck_ok h
          refine ev_iast od_192_76 oA_55 (ov_ibk bq7) ?_
          refine ev_iload_n od_192_77 rfl ?_
          cases h
          exact ev_iret od_192_78 rfl hP
        · rw [if_neg hc8] at h
          refine ev_bipush (v := (-3 : Int32)) od_192_50 (by decide) ?_
          cases h
          exact ev_iret od_192_52 rfl hP
    · rw [if_neg hc10] at h
      refine ev_iconst (v := (-1 : Int32)) od_192_28 (by decide) ?_
      cases h
      exact ev_iret od_192_29 rfl hP
theorem R192 {L : Nat} {S : ov_S} {G : ov_L2} {x1 : Int32} {x2 : Int32}  {out : Int32 × ov_S} (h : f192 S x1 x2 = some out) : ov_R L 4 192 [.ref 42, .int x1, .int x2] S G (some (.int out.1)) out.2 G :=
  ov_Rof (t192  h ⟨rfl, rfl, rfl⟩)
-- 196 OEModel.way
def f196 (S : ov_S) (x1 : Int32) (x2 : Int32) : Option (Int32 × ov_S) :=
  (f175 (ov_up S 42 0 (0 : Int32)) x1).bind fun y1 => (if y1 = 0 then (f193 x2).bind fun y2 => (if y2 = 0 then ov_ck (ov_ibb ((0 : Int32) + x1) 12) ((if ((ov_up S 42 0 (0 : Int32)) 55 (((0 : Int32) + x1)).toNatClampNeg) = (-9 : Int32) then some ((-3 : Int32), (ov_up S 42 0 (0 : Int32))) else (f178 55 (ov_up S 42 0 (0 : Int32)) x1).bind fun y4 => ov_ck (ov_ibb x2 18) (some ((y4 63 (x2).toNatClampNeg), y4)))) else some ((-1 : Int32), (ov_up S 42 0 (0 : Int32)))) else some ((-1 : Int32), (ov_up S 42 0 (0 : Int32))))
theorem t196 {L : Nat} {S : ov_S} {G : ov_L2} {x1 : Int32} {x2 : Int32} {P : Option Value → ov_S → ov_L2 → Prop}  {out : Int32 × ov_S} (h : f196 S x1 x2 = some out) (hP : P (some (.int out.1)) out.2 G) : ov_J L 3 196 0 [some (.ref 42), some (.int x1), some (.int x2)] [] S G P := by
  unfold f196 at h
  refine ev_aload_n od_196_0 rfl ?_
  refine ev_iconst (v := (0 : Int32)) od_196_1 (by decide) ?_
  refine ev_pf op_196_2 oO_42 rfl rfl ?_
  refine ev_aload_n od_196_5 rfl ?_
  refine ev_iload_n od_196_6 rfl ?_
  obtain ⟨y1, hy1, h⟩ := ov_bd h
  try dsimp only at h
  refine ev_cvi (y := 175) (n := 1) (a := 42) (c := 8) (as := [.int x1]) (rest := []) (dc := 2) oc_196_7 rfl rfl rfl oO_42 rfl rfl rfl rfl (by decide) (R175  hy1) ?_
  refine ev_if_ne (t := 20) od_196_10 (by decide) (fun hc8 => ?_) (fun hc8 => ?_)
  · rw [if_neg hc8] at h
    refine ev_iconst (v := (-1 : Int32)) od_196_20 (by decide) ?_
    cases h
    exact ev_iret od_196_21 rfl hP
  · rw [if_pos hc8] at h
    refine ev_iload_n od_196_13 rfl ?_
    obtain ⟨y2, hy2, h⟩ := ov_bd h
    try dsimp only at h
    refine ev_csi (y := 193) (n := 1) (as := [.int x2]) (rest := []) (dc := 2) oc_196_14 rfl rfl rfl rfl rfl (by decide) (R193  hy2) ?_
    refine ev_if_eq (t := 22) od_196_17 (by decide) (fun hc7 => ?_) (fun hc7 => ?_)
    · rw [if_pos hc7] at h
      refine ev_aload_n od_196_22 rfl ?_
      refine ev_gf (v := .ref 55) og_196_23 oO_42 rfl ?_
      refine ev_iconst (v := (0 : Int32)) od_196_26 (by decide) ?_
      refine ev_iload_n od_196_27 rfl ?_
      refine ev_iadd od_196_28 ?_
      obtain ⟨bq3, h⟩ := ov_ck_ok h
      refine ev_iald od_196_29 oA_55 (ov_ibk bq3) ?_
      refine ev_bipush (v := (-9 : Int32)) od_196_30 (by decide) ?_
      refine ev_icmp_ne (t := 38) od_196_32 (by decide) (fun hc6 => ?_) (fun hc6 => ?_)
      · rw [if_neg hc6] at h
        refine ev_aload_n od_196_38 rfl ?_
        refine ev_aload_n od_196_39 rfl ?_
        refine ev_gf (v := .ref 55) og_196_40 oO_42 rfl ?_
        refine ev_iload_n od_196_43 rfl ?_
        obtain ⟨y4, hy4, h⟩ := ov_bd h
        try dsimp only at h
        refine ev_cvv (y := 178) (n := 2) (a := 42) (c := 8) (as := [.ref 55, .int x1]) (rest := []) (dc := 3) oc_196_44 rfl rfl rfl oO_42 rfl rfl rfl rfl (by decide) (R178 oA_55 hy4) ?_
        refine ev_aload_n od_196_47 rfl ?_
        refine ev_gf (v := .ref 63) og_196_48 oO_42 rfl ?_
        refine ev_iload_n od_196_51 rfl ?_
        obtain ⟨bq5, h⟩ := ov_ck_ok h
        refine ev_iald od_196_52 oA_63 (ov_ibk bq5) ?_
        cases h
        exact ev_iret od_196_53 rfl hP
      · rw [if_pos hc6] at h
        refine ev_bipush (v := (-3 : Int32)) od_196_35 (by decide) ?_
        cases h
        exact ev_iret od_196_37 rfl hP
    · rw [if_neg hc7] at h
      refine ev_iconst (v := (-1 : Int32)) od_196_20 (by decide) ?_
      cases h
      exact ev_iret od_196_21 rfl hP
theorem R196 {L : Nat} {S : ov_S} {G : ov_L2} {x1 : Int32} {x2 : Int32}  {out : Int32 × ov_S} (h : f196 S x1 x2 = some out) : ov_R L 4 196 [.ref 42, .int x1, .int x2] S G (some (.int out.1)) out.2 G :=
  ov_Rof (t196  h ⟨rfl, rfl, rfl⟩)
-- 206 OEModel.bars
def f206 (S : ov_S) (x1 : Int32) : Option (Int32 × ov_S) :=
  (f144 (x1).toInt64 (0 : Int64) ((((ov_up S 42 0 (0 : Int32)) 42 10) - (1 : Int32))).toInt64).bind fun y1 => (if y1 = 0 then some ((-1 : Int32), (ov_up S 42 0 (0 : Int32))) else ov_ck (ov_ibb x1 6) (ov_ck (ov_ibb x1 6) ((f165 55 (ov_up S 42 0 (0 : Int32)) ((ov_up S 42 0 (0 : Int32)) 47 (x1).toNatClampNeg) ((ov_up S 42 0 (0 : Int32)) 48 (x1).toNatClampNeg)).bind fun y4 => some (y4, (ov_up S 42 0 (0 : Int32))))))
theorem t206 {L : Nat} {S : ov_S} {G : ov_L2} {x1 : Int32} {P : Option Value → ov_S → ov_L2 → Prop}  {out : Int32 × ov_S} (h : f206 S x1 = some out) (hP : P (some (.int out.1)) out.2 G) : ov_J L 3 206 0 [some (.ref 42), some (.int x1)] [] S G P := by
  unfold f206 at h
  refine ev_aload_n od_206_0 rfl ?_
  refine ev_iconst (v := (0 : Int32)) od_206_1 (by decide) ?_
  refine ev_pf op_206_2 oO_42 rfl rfl ?_
  refine ev_iload_n od_206_5 rfl ?_
  refine ev_i2l od_206_6 ?_
  refine ev_lconst (v := (0 : Int64)) od_206_7 (by decide) ?_
  refine ev_aload_n od_206_8 rfl ?_
  refine ev_gf (v := .int ((ov_up S 42 0 (0 : Int32)) 42 10)) og_206_9 oO_42 rfl ?_
  refine ev_iconst (v := (1 : Int32)) od_206_12 (by decide) ?_
  refine ev_isub od_206_13 ?_
  refine ev_i2l od_206_14 ?_
  obtain ⟨y1, hy1, h⟩ := ov_bd h
  try dsimp only at h
  refine ev_csi (y := 144) (n := 3) (as := [.long (x1).toInt64, .long (0 : Int64), .long ((((ov_up S 42 0 (0 : Int32)) 42 10) - (1 : Int32))).toInt64]) (rest := []) (dc := 1) oc_206_15 rfl rfl rfl rfl rfl (by decide) (R144  hy1) ?_
  refine ev_if_eq (t := 44) od_206_18 (by decide) (fun hc5 => ?_) (fun hc5 => ?_)
  · rw [if_pos hc5] at h
    refine ev_iconst (v := (-1 : Int32)) od_206_44 (by decide) ?_
    cases h
    exact ev_iret od_206_45 rfl hP
  · rw [if_neg hc5] at h
    refine ev_aload_n od_206_21 rfl ?_
    refine ev_aload_n od_206_22 rfl ?_
    refine ev_gf (v := .ref 55) og_206_23 oO_42 rfl ?_
    refine ev_aload_n od_206_26 rfl ?_
    refine ev_gf (v := .ref 47) og_206_27 oO_42 rfl ?_
    refine ev_iload_n od_206_30 rfl ?_
    obtain ⟨bq2, h⟩ := ov_ck_ok h
    refine ev_iald od_206_31 oA_47 (ov_ibk bq2) ?_
    refine ev_aload_n od_206_32 rfl ?_
    refine ev_gf (v := .ref 48) og_206_33 oO_42 rfl ?_
    refine ev_iload_n od_206_36 rfl ?_
    obtain ⟨bq3, h⟩ := ov_ck_ok h
    refine ev_iald od_206_37 oA_48 (ov_ibk bq3) ?_
    obtain ⟨y4, hy4, h⟩ := ov_bd h
    try dsimp only at h
    refine ev_cvi (y := 165) (n := 3) (a := 42) (c := 8) (as := [.ref 55, .int ((ov_up S 42 0 (0 : Int32)) 47 (x1).toNatClampNeg), .int ((ov_up S 42 0 (0 : Int32)) 48 (x1).toNatClampNeg)]) (rest := []) (dc := 3) oc_206_38 rfl rfl rfl oO_42 rfl rfl rfl rfl (by decide) (R165 oA_55 hy4) ?_
    refine ev_goto (t := 45) od_206_41 (by decide) ?_
    cases h
    exact ev_iret od_206_45 rfl hP
theorem R206 {L : Nat} {S : ov_S} {G : ov_L2} {x1 : Int32}  {out : Int32 × ov_S} (h : f206 S x1 = some out) : ov_R L 4 206 [.ref 42, .int x1] S G (some (.int out.1)) out.2 G :=
  ov_Rof (t206  h ⟨rfl, rfl, rfl⟩)
-- 17 OE.fault
def f17 (S : ov_S) : Option (Int32 × ov_S) :=
  (f18 11 S).bind fun y1 => some (y1.1, y1.2)
theorem t17 {L : Nat} {S : ov_S} {G : ov_L2}  {P : Option Value → ov_S → ov_L2 → Prop}  {out : Int32 × ov_S} (h : f17 S = some out) (hP : P (some (.int out.1)) out.2 G) : ov_J L 4 17 0 [some (.ref 1)] [] S G P := by
  unfold f17 at h
  refine ev_aload_n od_17_0 rfl ?_
  refine ev_gf (v := .ref 11) og_17_1 oO_1 rfl ?_
  refine ev_aload_n od_17_4 rfl ?_
  refine ev_gf (v := .ref 2) og_17_5 oO_1 rfl ?_
  obtain ⟨y1, hy1, h⟩ := ov_bd h
  try dsimp only at h
  refine ev_cvi (y := 18) (n := 1) (a := 11) (c := 2) (as := [.ref 2]) (rest := []) (dc := 4) oc_17_8 rfl rfl rfl oO_11 rfl rfl rfl rfl (by decide) (R18 oP_11 hy1) ?_
  cases h
  exact ev_iret od_17_11 rfl hP
theorem R17 {L : Nat} {S : ov_S} {G : ov_L2}   {out : Int32 × ov_S} (h : f17 S = some out) : ov_R L 5 17 [.ref 1] S G (some (.int out.1)) out.2 G :=
  ov_Rof (t17  h ⟨rfl, rfl, rfl⟩)
-- 30 OE.play
def f30 (S : ov_S) : Option (Int32 × ov_S) :=
  (f18 11 S).bind fun y1 => (if y1.1 = (-9 : Int32) then (f18 4 y1.2).bind fun y2 => (f5 18 y2.2).bind fun y3 => (f31 y3).bind fun y4 => some ((((((1000 : Int32) * ((ov_up y4 1 10 (0 : Int32)) 4 0)) + ((100 : Int32) * ((ov_up y4 1 10 (0 : Int32)) 4 1))) + ((10 : Int32) * ((ov_up y4 1 10 (0 : Int32)) 4 2))) + ((ov_up y4 1 10 (0 : Int32)) 4 3)), (ov_up y4 1 10 (0 : Int32))) else some ((-3 : Int32), y1.2))
theorem t30 {L : Nat} {S : ov_S} {G : ov_L2}  {P : Option Value → ov_S → ov_L2 → Prop}  {out : Int32 × ov_S} (h : f30 S = some out) (hP : P (some (.int out.1)) out.2 G) : ov_J L 4 30 0 [some (.ref 1)] [] S G P := by
  unfold f30 at h
  refine ev_aload_n od_30_0 rfl ?_
  refine ev_gf (v := .ref 11) og_30_1 oO_1 rfl ?_
  refine ev_aload_n od_30_4 rfl ?_
  refine ev_gf (v := .ref 2) og_30_5 oO_1 rfl ?_
  obtain ⟨y1, hy1, h⟩ := ov_bd h
  try dsimp only at h
  refine ev_cvi (y := 18) (n := 1) (a := 11) (c := 2) (as := [.ref 2]) (rest := []) (dc := 4) oc_30_8 rfl rfl rfl oO_11 rfl rfl rfl rfl (by decide) (R18 oP_11 hy1) ?_
  refine ev_bipush (v := (-9 : Int32)) od_30_11 (by decide) ?_
  refine ev_icmp_eq (t := 19) od_30_13 (by decide) (fun hc5 => ?_) (fun hc5 => ?_)
  · rw [if_pos hc5] at h
    refine ev_aload_n od_30_19 rfl ?_
    refine ev_gf (v := .ref 4) og_30_20 oO_1 rfl ?_
    refine ev_aload_n od_30_23 rfl ?_
    refine ev_gf (v := .ref 2) og_30_24 oO_1 rfl ?_
    obtain ⟨y2, hy2, h⟩ := ov_bd h
    try dsimp only at h
    refine ev_cvi (y := 18) (n := 1) (a := 4) (c := 2) (as := [.ref 2]) (rest := []) (dc := 4) oc_30_27 rfl rfl rfl oO_4 rfl rfl rfl rfl (by decide) (R18 oP_4 hy2) ?_
    refine ev_pop od_30_30 rfl ?_
    refine ev_aload_n od_30_31 rfl ?_
    refine ev_gf (v := .ref 18) og_30_32 oO_1 rfl ?_
    obtain ⟨y3, hy3, h⟩ := ov_bd h
    try dsimp only at h
    refine ev_cvv (y := 5) (n := 0) (a := 18) (c := 3) (as := []) (rest := []) (dc := 3) oc_30_35 rfl rfl rfl oO_18 rfl rfl rfl rfl (by decide) (R5 oS_18 hy3) ?_
    refine ev_aload_n od_30_38 rfl ?_
    refine ev_gf (v := .ref 24) og_30_39 oO_1 rfl ?_
    obtain ⟨y4, hy4, h⟩ := ov_bd h
    try dsimp only at h
    refine ev_cvv (y := 31) (n := 0) (a := 24) (c := 4) (as := []) (rest := []) (dc := 1) oc_30_42 rfl rfl rfl oO_24 rfl rfl rfl rfl (by decide) (R31  hy4) ?_
    refine ev_aload_n od_30_45 rfl ?_
    refine ev_iconst (v := (0 : Int32)) od_30_46 (by decide) ?_
    refine ev_pf op_30_47 oO_1 rfl rfl ?_
    refine ev_sipush (v := (1000 : Int32)) od_30_50 (by decide) ?_
    refine ev_aload_n od_30_53 rfl ?_
    refine ev_gf (v := .ref 4) og_30_54 oO_1 rfl ?_
    refine ev_gf (v := .int ((ov_up y4 1 10 (0 : Int32)) 4 0)) og_30_57 oO_4 rfl ?_
    refine ev_imul od_30_60 ?_
    refine ev_bipush (v := (100 : Int32)) od_30_61 (by decide) ?_
    refine ev_aload_n od_30_63 rfl ?_
    refine ev_gf (v := .ref 4) og_30_64 oO_1 rfl ?_
    refine ev_gf (v := .int ((ov_up y4 1 10 (0 : Int32)) 4 1)) og_30_67 oO_4 rfl ?_
    refine ev_imul od_30_70 ?_
    refine ev_iadd od_30_71 ?_
    refine ev_bipush (v := (10 : Int32)) od_30_72 (by decide) ?_
    refine ev_aload_n od_30_74 rfl ?_
    refine ev_gf (v := .ref 4) og_30_75 oO_1 rfl ?_
    refine ev_gf (v := .int ((ov_up y4 1 10 (0 : Int32)) 4 2)) og_30_78 oO_4 rfl ?_
    refine ev_imul od_30_81 ?_
    refine ev_iadd od_30_82 ?_
    refine ev_aload_n od_30_83 rfl ?_
    refine ev_gf (v := .ref 4) og_30_84 oO_1 rfl ?_
    refine ev_gf (v := .int ((ov_up y4 1 10 (0 : Int32)) 4 3)) og_30_87 oO_4 rfl ?_
    refine ev_iadd od_30_90 ?_
    cases h
    exact ev_iret od_30_91 rfl hP
  · rw [if_neg hc5] at h
    refine ev_bipush (v := (-3 : Int32)) od_30_16 (by decide) ?_
    cases h
    exact ev_iret od_30_18 rfl hP
theorem R30 {L : Nat} {S : ov_S} {G : ov_L2}   {out : Int32 × ov_S} (h : f30 S = some out) : ov_R L 5 30 [.ref 1] S G (some (.int out.1)) out.2 G :=
  ov_Rof (t30  h ⟨rfl, rfl, rfl⟩)
-- 36 OE$Stage.seenParts
def f36_41_9 (a : Nat) (S : ov_S) (x1 : Int32) (x3 : Int32) (s0 : Int32) : Option ((Int32 × Int32) ⊕ (Int32)) :=
  some (.inl (s0, (x3 + (1 : Int32))))
theorem t36_41_9 {L : Nat} {S : ov_S} {G : ov_L2} {a : Nat} {x1 : Int32} {x3 : Int32} {s0 : Int32} {P : Option Value → ov_S → ov_L2 → Prop} (ha : ov_St a) {out : (Int32 × Int32) ⊕ (Int32)} (h : f36_41_9 a S x1 x3 s0 = some out) (hk : ov_sm (σ := Int32 × Int32) (ε := (Int32)) (fun s => ov_J L 4 36 9 [some (.ref a), some (.int x1), some (.int s.1), some (.int s.2)] [] S G P) (fun e => ov_J L 4 36 48 [none, none, some (.int e), none] [] S G P) out) : ov_J L 4 36 41 [some (.ref a), some (.int x1), none, some (.int x3)] [.int s0] S G P := by
  unfold f36_41_9 at h
  refine ev_istore_n (lv1 := [some (.ref a), some (.int x1), some (.int s0), some (.int x3)]) od_36_41 rfl rfl ?_
  refine ev_iinc (v := (x3 + (1 : Int32))) (lv1 := [some (.ref a), some (.int x1), some (.int s0), some (.int (x3 + (1 : Int32)))]) od_36_42 rfl rfl rfl ?_
  refine ev_goto (t := 9) od_36_45 (by decide) ?_
  cases h
  exact hk
def b36_9 (a : Nat) (S : ov_S) (x1 : Int32) (x2 : Int32) (x3 : Int32) : Option ((Int32 × Int32) ⊕ (Int32)) :=
  (if (S 4 2) ≤ x3 then some (.inr x2) else (f35 a S x3).bind fun y2 => (f23 x1 y2).bind fun y3 => (if y3 = 0 then f36_41_9 a S x1 x3 x2 else (f27 x2 x3).bind fun y4 => f36_41_9 a S x1 x3 y4))
theorem bt36_9 {L : Nat} {S : ov_S} {G : ov_L2} {a : Nat} {x1 : Int32} {x2 : Int32} {x3 : Int32} {P : Option Value → ov_S → ov_L2 → Prop} (ha : ov_St a) {out : (Int32 × Int32) ⊕ (Int32)} (h : b36_9 a S x1 x2 x3 = some out) (hk : ov_sm (σ := Int32 × Int32) (ε := (Int32)) (fun s => ov_J L 4 36 9 [some (.ref a), some (.int x1), some (.int s.1), some (.int s.2)] [] S G P) (fun e => ov_J L 4 36 48 [none, none, some (.int e), none] [] S G P) out) : ov_J L 4 36 9 [some (.ref a), some (.int x1), some (.int x2), some (.int x3)] [] S G P := by
  unfold b36_9 at h
  refine ev_iload_n od_36_9 rfl ?_
  refine ev_aload_n od_36_10 rfl ?_
  refine ev_gf (v := .ref 4) og_36_11 (st_O ha) (st_v0 ha) ?_
  refine ev_gf (v := .int (S 4 2)) og_36_14 oO_4 rfl ?_
  refine ev_icmp_ge (t := 48) od_36_17 (by decide) (fun hc6 => ?_) (fun hc6 => ?_)
  · rw [if_pos hc6] at h
    cases h
    refine ev_fg (lv0 := [none, none, some (.int x2), none]) (ov_le_n (ov_le_n (ov_le_s (ov_le_n (ov_le_e))))) ?_
    exact hk
  · rw [if_neg hc6] at h
    refine ev_iload_n od_36_20 rfl ?_
    refine ev_aload_n od_36_21 rfl ?_
    refine ev_iload_n od_36_22 rfl ?_
    obtain ⟨y2, hy2, h⟩ := ov_bd h
    try dsimp only at h
    refine ev_cvi (y := 35) (n := 1) (a := a) (c := 3) (as := [.int x3]) (rest := [.int x1]) (dc := 2) oc_36_23 rfl rfl rfl (st_O ha) rfl rfl rfl rfl (by decide) (R35 ha hy2) ?_
    obtain ⟨y3, hy3, h⟩ := ov_bd h
    try dsimp only at h
    refine ev_csi (y := 23) (n := 2) (as := [.int x1, .int y2]) (rest := []) (dc := 1) oc_36_26 rfl rfl rfl rfl rfl (by decide) (R23  hy3) ?_
    refine ev_if_eq (t := 40) od_36_29 (by decide) (fun hc5 => ?_) (fun hc5 => ?_)
    · rw [if_pos hc5] at h
      refine ev_iload_n od_36_40 rfl ?_
      refine ev_fg (lv0 := [some (.ref a), some (.int x1), none, some (.int x3)]) (ov_le_s (ov_le_s (ov_le_n (ov_le_s (ov_le_e))))) ?_
      exact t36_41_9 ha h hk
    · rw [if_neg hc5] at h
      refine ev_iload_n od_36_32 rfl ?_
      refine ev_iload_n od_36_33 rfl ?_
      obtain ⟨y4, hy4, h⟩ := ov_bd h
      try dsimp only at h
      refine ev_csi (y := 27) (n := 2) (as := [.int x2, .int x3]) (rest := []) (dc := 1) oc_36_34 rfl rfl rfl rfl rfl (by decide) (R27  hy4) ?_
      refine ev_goto (t := 41) od_36_37 (by decide) ?_
      refine ev_fg (lv0 := [some (.ref a), some (.int x1), none, some (.int x3)]) (ov_le_s (ov_le_s (ov_le_n (ov_le_s (ov_le_e))))) ?_
      exact t36_41_9 ha h hk
def f36 (a : Nat) (S : ov_S) : Option (Int32) :=
  (f37 a S).bind fun y1 => ((ov_lp (fun s => b36_9 a S y1 s.1 s.2) 2000 ((0 : Int32), (0 : Int32))).bind fun e7 => some e7)
theorem t36 {L : Nat} {S : ov_S} {G : ov_L2} {a : Nat} {P : Option Value → ov_S → ov_L2 → Prop} (ha : ov_St a) {out : Int32} (h : f36 a S = some out) (hP : P (some (.int out)) S G) : ov_J L 4 36 0 [some (.ref a), none, none, none] [] S G P := by
  unfold f36 at h
  refine ev_aload_n od_36_0 rfl ?_
  obtain ⟨y1, hy1, h⟩ := ov_bd h
  try dsimp only at h
  refine ev_cvi (y := 37) (n := 0) (a := a) (c := 3) (as := []) (rest := []) (dc := 4) oc_36_1 rfl rfl rfl (st_O ha) rfl rfl rfl rfl (by decide) (R37 ha hy1) ?_
  refine ev_istore_n (lv1 := [some (.ref a), some (.int y1), none, none]) od_36_4 rfl rfl ?_
  refine ev_iconst (v := (0 : Int32)) od_36_5 (by decide) ?_
  refine ev_istore_n (lv1 := [some (.ref a), some (.int y1), some (.int (0 : Int32)), none]) od_36_6 rfl rfl ?_
  refine ev_iconst (v := (0 : Int32)) od_36_7 (by decide) ?_
  refine ev_istore_n (lv1 := [some (.ref a), some (.int y1), some (.int (0 : Int32)), some (.int (0 : Int32))]) od_36_8 rfl rfl ?_
  obtain ⟨e7, he7, h⟩ := ov_bd h
  try dsimp only at h
  refine ov_lp_S (body := (fun s => b36_9 a S y1 s.1 s.2)) (head := (fun s => ov_J L 4 36 9 [some (.ref a), some (.int y1), some (.int s.1), some (.int s.2)] [] S G P)) (exit := (fun e => ov_J L 4 36 48 [none, none, some (.int e), none] [] S G P)) (fun s r hb hk => bt36_9 ha hb hk) 2000 ((0 : Int32), (0 : Int32)) e7 he7 ?_
  show ov_J L 4 36 48 [none, none, some (.int e7), none] [] S G P
  refine ev_iload_n od_36_48 rfl ?_
  cases h
  exact ev_iret od_36_49 rfl hP
theorem R36 {L : Nat} {S : ov_S} {G : ov_L2} {a : Nat} (ha : ov_St a) {out : Int32} (h : f36 a S = some out) : ov_R L 5 36 [.ref a] S G (some (.int out)) S G :=
  ov_Rof (t36 ha h ⟨rfl, rfl, rfl⟩)
-- 62 OE.part
def f62 (S : ov_S) (x1 : Int32) (x2 : Int32) : Option (Int32) :=
  (f29 4 S x1).bind fun y1 => (if y1 = 0 then some (-1 : Int32) else (if x2 = (0 : Int32) then (f63 4 S x1).bind fun y3 => some y3 else if x2 = (1 : Int32) then (f64 4 S x1).bind fun y5 => some y5 else if x2 = (2 : Int32) then (f35 18 S x1).bind fun y7 => some y7 else if x2 = (3 : Int32) then (f65 18 S x1).bind fun y9 => some y9 else if x2 = (4 : Int32) then (f35 18 S x1).bind fun y11 => (f66 18 S x1).bind fun y12 => (f67 y11 y12).bind fun y13 => (f69 y13).bind fun y14 => some y14 else some (-2 : Int32)))
theorem t62 {L : Nat} {S : ov_S} {G : ov_L2} {x1 : Int32} {x2 : Int32} {P : Option Value → ov_S → ov_L2 → Prop}  {out : Int32} (h : f62 S x1 x2 = some out) (hP : P (some (.int out)) S G) : ov_J L 4 62 0 [some (.ref 1), some (.int x1), some (.int x2)] [] S G P := by
  unfold f62 at h
  refine ev_aload_n od_62_0 rfl ?_
  refine ev_gf (v := .ref 4) og_62_1 oO_1 rfl ?_
  refine ev_iload_n od_62_4 rfl ?_
  obtain ⟨y1, hy1, h⟩ := ov_bd h
  try dsimp only at h
  refine ev_cvi (y := 29) (n := 1) (a := 4) (c := 2) (as := [.int x1]) (rest := []) (dc := 1) oc_62_5 rfl rfl rfl oO_4 rfl rfl rfl rfl (by decide) (R29 oP_4 hy1) ?_
  refine ev_if_ne (t := 13) od_62_8 (by decide) (fun hc15 => ?_) (fun hc15 => ?_)
  · rw [if_neg hc15] at h
    refine ev_iload_n od_62_13 rfl ?_
    by_cases hc2 : x2 = (0 : Int32)
    · rw [if_pos hc2] at h
      refine ev_tsc (off := 34) (t := 48) hc2 od_62_14 (by decide) (by decide) ?_
      refine ev_aload_n od_62_48 rfl ?_
      refine ev_gf (v := .ref 4) og_62_49 oO_1 rfl ?_
      refine ev_iload_n od_62_52 rfl ?_
      obtain ⟨y3, hy3, h⟩ := ov_bd h
      try dsimp only at h
      refine ev_cvi (y := 63) (n := 1) (a := 4) (c := 2) (as := [.int x1]) (rest := []) (dc := 2) oc_62_53 rfl rfl rfl oO_4 rfl rfl rfl rfl (by decide) (R63 oP_4 hy3) ?_
      cases h
      exact ev_iret od_62_56 rfl hP
    rw [if_neg hc2] at h
    by_cases hc4 : x2 = (1 : Int32)
    · rw [if_pos hc4] at h
      refine ev_tsc (off := 43) (t := 57) hc4 od_62_14 (by decide) (by decide) ?_
      refine ev_aload_n od_62_57 rfl ?_
      refine ev_gf (v := .ref 4) og_62_58 oO_1 rfl ?_
      refine ev_iload_n od_62_61 rfl ?_
      obtain ⟨y5, hy5, h⟩ := ov_bd h
      try dsimp only at h
      refine ev_cvi (y := 64) (n := 1) (a := 4) (c := 2) (as := [.int x1]) (rest := []) (dc := 2) oc_62_62 rfl rfl rfl oO_4 rfl rfl rfl rfl (by decide) (R64 oP_4 hy5) ?_
      cases h
      exact ev_iret od_62_65 rfl hP
    rw [if_neg hc4] at h
    by_cases hc6 : x2 = (2 : Int32)
    · rw [if_pos hc6] at h
      refine ev_tsc (off := 52) (t := 66) hc6 od_62_14 (by decide) (by decide) ?_
      refine ev_aload_n od_62_66 rfl ?_
      refine ev_gf (v := .ref 18) og_62_67 oO_1 rfl ?_
      refine ev_iload_n od_62_70 rfl ?_
      obtain ⟨y7, hy7, h⟩ := ov_bd h
      try dsimp only at h
      refine ev_cvi (y := 35) (n := 1) (a := 18) (c := 3) (as := [.int x1]) (rest := []) (dc := 2) oc_62_71 rfl rfl rfl oO_18 rfl rfl rfl rfl (by decide) (R35 oS_18 hy7) ?_
      cases h
      exact ev_iret od_62_74 rfl hP
    rw [if_neg hc6] at h
    by_cases hc8 : x2 = (3 : Int32)
    · rw [if_pos hc8] at h
      refine ev_tsc (off := 61) (t := 75) hc8 od_62_14 (by decide) (by decide) ?_
      refine ev_aload_n od_62_75 rfl ?_
      refine ev_gf (v := .ref 18) og_62_76 oO_1 rfl ?_
      refine ev_iload_n od_62_79 rfl ?_
      obtain ⟨y9, hy9, h⟩ := ov_bd h
      try dsimp only at h
      refine ev_cvi (y := 65) (n := 1) (a := 18) (c := 3) (as := [.int x1]) (rest := []) (dc := 4) oc_62_80 rfl rfl rfl oO_18 rfl rfl rfl rfl (by decide) (R65 oS_18 hy9) ?_
      cases h
      exact ev_iret od_62_83 rfl hP
    rw [if_neg hc8] at h
    by_cases hc10 : x2 = (4 : Int32)
    · rw [if_pos hc10] at h
      refine ev_tsc (off := 70) (t := 84) hc10 od_62_14 (by decide) (by decide) ?_
      refine ev_aload_n od_62_84 rfl ?_
      refine ev_gf (v := .ref 18) og_62_85 oO_1 rfl ?_
      refine ev_iload_n od_62_88 rfl ?_
      obtain ⟨y11, hy11, h⟩ := ov_bd h
      try dsimp only at h
      refine ev_cvi (y := 35) (n := 1) (a := 18) (c := 3) (as := [.int x1]) (rest := []) (dc := 2) oc_62_89 rfl rfl rfl oO_18 rfl rfl rfl rfl (by decide) (R35 oS_18 hy11) ?_
      refine ev_aload_n od_62_92 rfl ?_
      refine ev_gf (v := .ref 18) og_62_93 oO_1 rfl ?_
      refine ev_iload_n od_62_96 rfl ?_
      obtain ⟨y12, hy12, h⟩ := ov_bd h
      try dsimp only at h
      refine ev_cvi (y := 66) (n := 1) (a := 18) (c := 3) (as := [.int x1]) (rest := [.int y11]) (dc := 4) oc_62_97 rfl rfl rfl oO_18 rfl rfl rfl rfl (by decide) (R66 oS_18 hy12) ?_
      obtain ⟨y13, hy13, h⟩ := ov_bd h
      try dsimp only at h
      refine ev_csi (y := 67) (n := 2) (as := [.int y11, .int y12]) (rest := []) (dc := 2) oc_62_100 rfl rfl rfl rfl rfl (by decide) (R67  hy13) ?_
      obtain ⟨y14, hy14, h⟩ := ov_bd h
      try dsimp only at h
      refine ev_csi (y := 69) (n := 1) (as := [.int y13]) (rest := []) (dc := 1) oc_62_103 rfl rfl rfl rfl rfl (by decide) (R69  hy14) ?_
      cases h
      exact ev_iret od_62_106 rfl hP
    rw [if_neg hc10] at h
    have ehc2 := ov_ni hc2
    have ehc4 := ov_ni hc4
    have ehc6 := ov_ni hc6
    have ehc8 := ov_ni hc8
    have ehc10 := ov_ni hc10
    have hout : (x2).toInt < 0 ∨ 4 < (x2).toInt := by
      rw [show ((0 : Int32)).toInt = 0 from by decide] at ehc2
      rw [show ((1 : Int32)).toInt = 1 from by decide] at ehc4
      rw [show ((2 : Int32)).toInt = 2 from by decide] at ehc6
      rw [show ((3 : Int32)).toInt = 3 from by decide] at ehc8
      rw [show ((4 : Int32)).toInt = 4 from by decide] at ehc10
      omega
    refine ev_tsd (t := 107) hout od_62_14 (by decide) ?_
    refine ev_bipush (v := (-2 : Int32)) od_62_107 (by decide) ?_
    cases h
    exact ev_iret od_62_109 rfl hP
  · rw [if_pos hc15] at h
    refine ev_iconst (v := (-1 : Int32)) od_62_11 (by decide) ?_
    cases h
    exact ev_iret od_62_12 rfl hP
theorem R62 {L : Nat} {S : ov_S} {G : ov_L2} {x1 : Int32} {x2 : Int32}  {out : Int32} (h : f62 S x1 x2 = some out) : ov_R L 5 62 [.ref 1, .int x1, .int x2] S G (some (.int out)) S G :=
  ov_Rof (t62  h ⟨rfl, rfl, rfl⟩)
-- 70 OE.line
def f70 (S : ov_S) (x1 : Int32) (x2 : Int32) : Option (Int32) :=
  (f45 4 S x1).bind fun y1 => (if y1 = 0 then some (-1 : Int32) else (if x2 = (0 : Int32) then (f44 4 S x1).bind fun y3 => some y3 else if x2 = (1 : Int32) then (f46 4 S x1).bind fun y5 => some y5 else if x2 = (2 : Int32) then (f41 18 S).bind fun y7 => (f23 y7 x1).bind fun y8 => (if y8 = 0 then some (0 : Int32) else some (1 : Int32)) else if x2 = (3 : Int32) then (f42 18 S (63 : Int32)).bind fun y11 => (f23 y11 x1).bind fun y12 => (if y12 = 0 then some (0 : Int32) else some (1 : Int32)) else some (-2 : Int32)))
theorem t70 {L : Nat} {S : ov_S} {G : ov_L2} {x1 : Int32} {x2 : Int32} {P : Option Value → ov_S → ov_L2 → Prop}  {out : Int32} (h : f70 S x1 x2 = some out) (hP : P (some (.int out)) S G) : ov_J L 4 70 0 [some (.ref 1), some (.int x1), some (.int x2)] [] S G P := by
  unfold f70 at h
  refine ev_aload_n od_70_0 rfl ?_
  refine ev_gf (v := .ref 4) og_70_1 oO_1 rfl ?_
  refine ev_iload_n od_70_4 rfl ?_
  obtain ⟨y1, hy1, h⟩ := ov_bd h
  try dsimp only at h
  refine ev_cvi (y := 45) (n := 1) (a := 4) (c := 2) (as := [.int x1]) (rest := []) (dc := 1) oc_70_5 rfl rfl rfl oO_4 rfl rfl rfl rfl (by decide) (R45 oP_4 hy1) ?_
  refine ev_if_ne (t := 13) od_70_8 (by decide) (fun hc14 => ?_) (fun hc14 => ?_)
  · rw [if_neg hc14] at h
    refine ev_iload_n od_70_13 rfl ?_
    by_cases hc2 : x2 = (0 : Int32)
    · rw [if_pos hc2] at h
      refine ev_tsc (off := 30) (t := 44) hc2 od_70_14 (by decide) (by decide) ?_
      refine ev_aload_n od_70_44 rfl ?_
      refine ev_gf (v := .ref 4) og_70_45 oO_1 rfl ?_
      refine ev_iload_n od_70_48 rfl ?_
      obtain ⟨y3, hy3, h⟩ := ov_bd h
      try dsimp only at h
      refine ev_cvi (y := 44) (n := 1) (a := 4) (c := 2) (as := [.int x1]) (rest := []) (dc := 2) oc_70_49 rfl rfl rfl oO_4 rfl rfl rfl rfl (by decide) (R44 oP_4 hy3) ?_
      cases h
      exact ev_iret od_70_52 rfl hP
    rw [if_neg hc2] at h
    by_cases hc4 : x2 = (1 : Int32)
    · rw [if_pos hc4] at h
      refine ev_tsc (off := 39) (t := 53) hc4 od_70_14 (by decide) (by decide) ?_
      refine ev_aload_n od_70_53 rfl ?_
      refine ev_gf (v := .ref 4) og_70_54 oO_1 rfl ?_
      refine ev_iload_n od_70_57 rfl ?_
      obtain ⟨y5, hy5, h⟩ := ov_bd h
      try dsimp only at h
      refine ev_cvi (y := 46) (n := 1) (a := 4) (c := 2) (as := [.int x1]) (rest := []) (dc := 2) oc_70_58 rfl rfl rfl oO_4 rfl rfl rfl rfl (by decide) (R46 oP_4 hy5) ?_
      cases h
      exact ev_iret od_70_61 rfl hP
    rw [if_neg hc4] at h
    by_cases hc6 : x2 = (2 : Int32)
    · rw [if_pos hc6] at h
      refine ev_tsc (off := 48) (t := 62) hc6 od_70_14 (by decide) (by decide) ?_
      refine ev_aload_n od_70_62 rfl ?_
      refine ev_gf (v := .ref 18) og_70_63 oO_1 rfl ?_
      obtain ⟨y7, hy7, h⟩ := ov_bd h
      try dsimp only at h
      refine ev_cvi (y := 41) (n := 0) (a := 18) (c := 3) (as := []) (rest := []) (dc := 1) oc_70_66 rfl rfl rfl oO_18 rfl rfl rfl rfl (by decide) (R41 oS_18 hy7) ?_
      refine ev_iload_n od_70_69 rfl ?_
      obtain ⟨y8, hy8, h⟩ := ov_bd h
      try dsimp only at h
      refine ev_csi (y := 23) (n := 2) (as := [.int y7, .int x1]) (rest := []) (dc := 1) oc_70_70 rfl rfl rfl rfl rfl (by decide) (R23  hy8) ?_
      refine ev_if_eq (t := 80) od_70_73 (by decide) (fun hc9 => ?_) (fun hc9 => ?_)
      · rw [if_pos hc9] at h
        refine ev_iconst (v := (0 : Int32)) od_70_80 (by decide) ?_
        cases h
        exact ev_iret od_70_81 rfl hP
      · rw [if_neg hc9] at h
        refine ev_iconst (v := (1 : Int32)) od_70_76 (by decide) ?_
        refine ev_goto (t := 81) od_70_77 (by decide) ?_
        cases h
        exact ev_iret od_70_81 rfl hP
    rw [if_neg hc6] at h
    by_cases hc10 : x2 = (3 : Int32)
    · rw [if_pos hc10] at h
      refine ev_tsc (off := 68) (t := 82) hc10 od_70_14 (by decide) (by decide) ?_
      refine ev_aload_n od_70_82 rfl ?_
      refine ev_gf (v := .ref 18) og_70_83 oO_1 rfl ?_
      refine ev_bipush (v := (63 : Int32)) od_70_86 (by decide) ?_
      obtain ⟨y11, hy11, h⟩ := ov_bd h
      try dsimp only at h
      refine ev_cvi (y := 42) (n := 1) (a := 18) (c := 3) (as := [.int (63 : Int32)]) (rest := []) (dc := 4) oc_70_88 rfl rfl rfl oO_18 rfl rfl rfl rfl (by decide) (R42 oS_18 hy11) ?_
      refine ev_iload_n od_70_91 rfl ?_
      obtain ⟨y12, hy12, h⟩ := ov_bd h
      try dsimp only at h
      refine ev_csi (y := 23) (n := 2) (as := [.int y11, .int x1]) (rest := []) (dc := 1) oc_70_92 rfl rfl rfl rfl rfl (by decide) (R23  hy12) ?_
      refine ev_if_eq (t := 102) od_70_95 (by decide) (fun hc13 => ?_) (fun hc13 => ?_)
      · rw [if_pos hc13] at h
        refine ev_iconst (v := (0 : Int32)) od_70_102 (by decide) ?_
        cases h
        exact ev_iret od_70_103 rfl hP
      · rw [if_neg hc13] at h
        refine ev_iconst (v := (1 : Int32)) od_70_98 (by decide) ?_
        refine ev_goto (t := 103) od_70_99 (by decide) ?_
        cases h
        exact ev_iret od_70_103 rfl hP
    rw [if_neg hc10] at h
    have ehc2 := ov_ni hc2
    have ehc4 := ov_ni hc4
    have ehc6 := ov_ni hc6
    have ehc10 := ov_ni hc10
    have hout : (x2).toInt < 0 ∨ 3 < (x2).toInt := by
      rw [show ((0 : Int32)).toInt = 0 from by decide] at ehc2
      rw [show ((1 : Int32)).toInt = 1 from by decide] at ehc4
      rw [show ((2 : Int32)).toInt = 2 from by decide] at ehc6
      rw [show ((3 : Int32)).toInt = 3 from by decide] at ehc10
      omega
    refine ev_tsd (t := 104) hout od_70_14 (by decide) ?_
    refine ev_bipush (v := (-2 : Int32)) od_70_104 (by decide) ?_
    cases h
    exact ev_iret od_70_106 rfl hP
  · rw [if_pos hc14] at h
    refine ev_iconst (v := (-1 : Int32)) od_70_11 (by decide) ?_
    cases h
    exact ev_iret od_70_12 rfl hP
theorem R70 {L : Nat} {S : ov_S} {G : ov_L2} {x1 : Int32} {x2 : Int32}  {out : Int32} (h : f70 S x1 x2 = some out) : ov_R L 5 70 [.ref 1, .int x1, .int x2] S G (some (.int out)) S G :=
  ov_Rof (t70  h ⟨rfl, rfl, rfl⟩)
-- 71 OE.load
def f71 (S : ov_S) (x1 : Int32) : Option (Int32) :=
  (if x1 < 0 then some (-2 : Int32) else (if x1 < (6 : Int32) then (f72 18 S x1).bind fun y1 => some y1 else some (-2 : Int32)))
theorem t71 {L : Nat} {S : ov_S} {G : ov_L2} {x1 : Int32} {P : Option Value → ov_S → ov_L2 → Prop}  {out : Int32} (h : f71 S x1 = some out) (hP : P (some (.int out)) S G) : ov_J L 4 71 0 [some (.ref 1), some (.int x1)] [] S G P := by
  unfold f71 at h
  refine ev_iload_n od_71_0 rfl ?_
  refine ev_if_lt (t := 10) od_71_1 (by decide) (fun hc3 => ?_) (fun hc3 => ?_)
  · rw [if_pos hc3] at h
    refine ev_bipush (v := (-2 : Int32)) od_71_10 (by decide) ?_
    refine ev_goto (t := 23) od_71_12 (by decide) ?_
    cases h
    exact ev_iret od_71_23 rfl hP
  · rw [if_neg hc3] at h
    refine ev_iload_n od_71_4 rfl ?_
    refine ev_bipush (v := (6 : Int32)) od_71_5 (by decide) ?_
    refine ev_icmp_lt (t := 15) od_71_7 (by decide) (fun hc2 => ?_) (fun hc2 => ?_)
    · rw [if_pos hc2] at h
      refine ev_aload_n od_71_15 rfl ?_
      refine ev_gf (v := .ref 18) og_71_16 oO_1 rfl ?_
      refine ev_iload_n od_71_19 rfl ?_
      obtain ⟨y1, hy1, h⟩ := ov_bd h
      try dsimp only at h
      refine ev_cvi (y := 72) (n := 1) (a := 18) (c := 3) (as := [.int x1]) (rest := []) (dc := 4) oc_71_20 rfl rfl rfl oO_18 rfl rfl rfl rfl (by decide) (R72 oS_18 hy1) ?_
      cases h
      exact ev_iret od_71_23 rfl hP
    · rw [if_neg hc2] at h
      refine ev_bipush (v := (-2 : Int32)) od_71_10 (by decide) ?_
      refine ev_goto (t := 23) od_71_12 (by decide) ?_
      cases h
      exact ev_iret od_71_23 rfl hP
theorem R71 {L : Nat} {S : ov_S} {G : ov_L2} {x1 : Int32}  {out : Int32} (h : f71 S x1 = some out) : ov_R L 5 71 [.ref 1, .int x1] S G (some (.int out)) S G :=
  ov_Rof (t71  h ⟨rfl, rfl, rfl⟩)
-- 73 OE.enter
def f73 (S : ov_S) (x1 : Int32) (x2 : Int32) : Option (Int32 × ov_S) :=
  (f29 4 S x1).bind fun y1 => (if y1 = 0 then some ((-1 : Int32), S) else (f58 4 S x2).bind fun y2 => (if y2 = 0 then some ((-1 : Int32), S) else (f74 18 S x1 x2).bind fun y3 => (if y3.1 = 0 then some ((-3 : Int32), y3.2) else (f75 y3.2 (0 : Int32) x1 (-9 : Int32)).bind fun y4 => (f35 18 y4 x1).bind fun y5 => some (y5, y4))))
theorem t73 {L : Nat} {S : ov_S} {G : ov_L2} {x1 : Int32} {x2 : Int32} {P : Option Value → ov_S → ov_L2 → Prop}  {out : Int32 × ov_S} (h : f73 S x1 x2 = some out) (hP : P (some (.int out.1)) out.2 G) : ov_J L 4 73 0 [some (.ref 1), some (.int x1), some (.int x2)] [] S G P := by
  unfold f73 at h
  refine ev_aload_n od_73_0 rfl ?_
  refine ev_gf (v := .ref 4) og_73_1 oO_1 rfl ?_
  refine ev_iload_n od_73_4 rfl ?_
  obtain ⟨y1, hy1, h⟩ := ov_bd h
  try dsimp only at h
  refine ev_cvi (y := 29) (n := 1) (a := 4) (c := 2) (as := [.int x1]) (rest := []) (dc := 1) oc_73_5 rfl rfl rfl oO_4 rfl rfl rfl rfl (by decide) (R29 oP_4 hy1) ?_
  refine ev_if_eq (t := 22) od_73_8 (by decide) (fun hc8 => ?_) (fun hc8 => ?_)
  · rw [if_pos hc8] at h
    refine ev_iconst (v := (-1 : Int32)) od_73_22 (by decide) ?_
    cases h
    exact ev_iret od_73_23 rfl hP
  · rw [if_neg hc8] at h
    refine ev_aload_n od_73_11 rfl ?_
    refine ev_gf (v := .ref 4) og_73_12 oO_1 rfl ?_
    refine ev_iload_n od_73_15 rfl ?_
    obtain ⟨y2, hy2, h⟩ := ov_bd h
    try dsimp only at h
    refine ev_cvi (y := 58) (n := 1) (a := 4) (c := 2) (as := [.int x2]) (rest := []) (dc := 1) oc_73_16 rfl rfl rfl oO_4 rfl rfl rfl rfl (by decide) (R58 oP_4 hy2) ?_
    refine ev_if_ne (t := 24) od_73_19 (by decide) (fun hc7 => ?_) (fun hc7 => ?_)
    · rw [if_neg hc7] at h
      refine ev_aload_n od_73_24 rfl ?_
      refine ev_gf (v := .ref 18) og_73_25 oO_1 rfl ?_
      refine ev_iload_n od_73_28 rfl ?_
      refine ev_iload_n od_73_29 rfl ?_
      obtain ⟨y3, hy3, h⟩ := ov_bd h
      try dsimp only at h
      refine ev_cvi (y := 74) (n := 2) (a := 18) (c := 3) (as := [.int x1, .int x2]) (rest := []) (dc := 4) oc_73_30 rfl rfl rfl oO_18 rfl rfl rfl rfl (by decide) (R74 oS_18 hy3) ?_
      refine ev_if_ne (t := 39) od_73_33 (by decide) (fun hc6 => ?_) (fun hc6 => ?_)
      · rw [if_neg hc6] at h
        refine ev_aload_n od_73_39 rfl ?_
        refine ev_gf (v := .ref 24) og_73_40 oO_1 rfl ?_
        refine ev_iconst (v := (0 : Int32)) od_73_43 (by decide) ?_
        refine ev_iload_n od_73_44 rfl ?_
        refine ev_bipush (v := (-9 : Int32)) od_73_45 (by decide) ?_
        obtain ⟨y4, hy4, h⟩ := ov_bd h
        try dsimp only at h
        refine ev_cvv (y := 75) (n := 3) (a := 24) (c := 4) (as := [.int (0 : Int32), .int x1, .int (-9 : Int32)]) (rest := []) (dc := 2) oc_73_47 rfl rfl rfl oO_24 rfl rfl rfl rfl (by decide) (R75  hy4) ?_
        refine ev_aload_n od_73_50 rfl ?_
        refine ev_gf (v := .ref 18) og_73_51 oO_1 rfl ?_
        refine ev_iload_n od_73_54 rfl ?_
        obtain ⟨y5, hy5, h⟩ := ov_bd h
        try dsimp only at h
        refine ev_cvi (y := 35) (n := 1) (a := 18) (c := 3) (as := [.int x1]) (rest := []) (dc := 2) oc_73_55 rfl rfl rfl oO_18 rfl rfl rfl rfl (by decide) (R35 oS_18 hy5) ?_
        cases h
        exact ev_iret od_73_58 rfl hP
      · rw [if_pos hc6] at h
        refine ev_bipush (v := (-3 : Int32)) od_73_36 (by decide) ?_
        cases h
        exact ev_iret od_73_38 rfl hP
    · rw [if_pos hc7] at h
      refine ev_iconst (v := (-1 : Int32)) od_73_22 (by decide) ?_
      cases h
      exact ev_iret od_73_23 rfl hP
theorem R73 {L : Nat} {S : ov_S} {G : ov_L2} {x1 : Int32} {x2 : Int32}  {out : Int32 × ov_S} (h : f73 S x1 x2 = some out) : ov_R L 5 73 [.ref 1, .int x1, .int x2] S G (some (.int out.1)) out.2 G :=
  ov_Rof (t73  h ⟨rfl, rfl, rfl⟩)
