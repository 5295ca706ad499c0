-- 33 OE$Stage.onParts
def f33_32_4 (a : Nat) (S : ov_S) (x2 : Int32) (s0 : Int32) : Option ((Int32 × Int32) ⊕ (Int32)) :=
  some (.inl (s0, (x2 + (1 : Int32))))
theorem t33_32_4 {L : Nat} {S : ov_S} {G : ov_L2} {a : Nat} {x2 : Int32} {s0 : Int32} {P : Option Value → ov_S → ov_L2 → Prop} (ha : ov_St a) {out : (Int32 × Int32) ⊕ (Int32)} (h : f33_32_4 a S x2 s0 = some out) (hk : ov_sm (σ := Int32 × Int32) (ε := (Int32)) (fun s => ov_J L 3 33 4 [some (.ref a), some (.int s.1), some (.int s.2)] [] S G P) (fun e => ov_J L 3 33 39 [none, some (.int e), none] [] S G P) out) : ov_J L 3 33 32 [some (.ref a), none, some (.int x2)] [.int s0] S G P := by
  unfold f33_32_4 at h
  refine ev_istore_n (lv1 := [some (.ref a), some (.int s0), some (.int x2)]) od_33_32 rfl rfl ?_
  refine ev_iinc (v := (x2 + (1 : Int32))) (lv1 := [some (.ref a), some (.int s0), some (.int (x2 + (1 : Int32)))]) od_33_33 rfl rfl rfl ?_
  refine ev_goto (t := 4) od_33_36 (by decide) ?_
  cases h
  exact hk
def b33_4 (a : Nat) (S : ov_S) (x1 : Int32) (x2 : Int32) : Option ((Int32 × Int32) ⊕ (Int32)) :=
  (if (S 4 2) ≤ x2 then some (.inr x1) else (f34 a S x2).bind fun y1 => (if y1 = 0 then f33_32_4 a S x2 x1 else (f27 x1 x2).bind fun y2 => f33_32_4 a S x2 y2))
theorem bt33_4 {L : Nat} {S : ov_S} {G : ov_L2} {a : Nat} {x1 : Int32} {x2 : Int32} {P : Option Value → ov_S → ov_L2 → Prop} (ha : ov_St a) {out : (Int32 × Int32) ⊕ (Int32)} (h : b33_4 a S x1 x2 = some out) (hk : ov_sm (σ := Int32 × Int32) (ε := (Int32)) (fun s => ov_J L 3 33 4 [some (.ref a), some (.int s.1), some (.int s.2)] [] S G P) (fun e => ov_J L 3 33 39 [none, some (.int e), none] [] S G P) out) : ov_J L 3 33 4 [some (.ref a), some (.int x1), some (.int x2)] [] S G P := by
  unfold b33_4 at h
  refine ev_iload_n od_33_4 rfl ?_
  refine ev_aload_n od_33_5 rfl ?_
  refine ev_gf (v := .ref 4) og_33_6 (st_O ha) (st_v0 ha) ?_
  refine ev_gf (v := .int (S 4 2)) og_33_9 oO_4 rfl ?_
  refine ev_icmp_ge (t := 39) od_33_12 (by decide) (fun hc4 => ?_) (fun hc4 => ?_)
  · rw [if_pos hc4] at h
    cases h
    refine ev_fg (lv0 := [none, some (.int x1), none]) (ov_le_n (ov_le_s (ov_le_n (ov_le_e)))) ?_
    exact hk
  · rw [if_neg hc4] at h
    refine ev_aload_n od_33_15 rfl ?_
    refine ev_iload_n od_33_16 rfl ?_
    obtain ⟨y1, hy1, h⟩ := ov_bd h
    try dsimp only at h
    refine ev_cvi (y := 34) (n := 1) (a := a) (c := 3) (as := [.int x2]) (rest := []) (dc := 3) oc_33_17 rfl rfl rfl (st_O ha) rfl rfl rfl rfl (by decide) (R34 ha hy1) ?_
    refine ev_if_eq (t := 31) od_33_20 (by decide) (fun hc3 => ?_) (fun hc3 => ?_)
    · rw [if_pos hc3] at h
      refine ev_iload_n od_33_31 rfl ?_
      refine ev_fg (lv0 := [some (.ref a), none, some (.int x2)]) (ov_le_s (ov_le_n (ov_le_s (ov_le_e)))) ?_
      exact t33_32_4 ha h hk
    · rw [if_neg hc3] at h
      refine ev_iload_n od_33_23 rfl ?_
      refine ev_iload_n od_33_24 rfl ?_
      obtain ⟨y2, hy2, h⟩ := ov_bd h
      try dsimp only at h
      refine ev_csi (y := 27) (n := 2) (as := [.int x1, .int x2]) (rest := []) (dc := 1) oc_33_25 rfl rfl rfl rfl rfl (by decide) (R27  hy2) ?_
      refine ev_goto (t := 32) od_33_28 (by decide) ?_
      refine ev_fg (lv0 := [some (.ref a), none, some (.int x2)]) (ov_le_s (ov_le_n (ov_le_s (ov_le_e)))) ?_
      exact t33_32_4 ha h hk
def f33 (a : Nat) (S : ov_S) : Option (Int32) :=
  ((ov_lp (fun s => b33_4 a S s.1 s.2) 2000 ((0 : Int32), (0 : Int32))).bind fun e5 => some e5)
theorem t33 {L : Nat} {S : ov_S} {G : ov_L2} {a : Nat} {P : Option Value → ov_S → ov_L2 → Prop} (ha : ov_St a) {out : Int32} (h : f33 a S = some out) (hP : P (some (.int out)) S G) : ov_J L 3 33 0 [some (.ref a), none, none] [] S G P := by
  unfold f33 at h
  refine ev_iconst (v := (0 : Int32)) od_33_0 (by decide) ?_
  refine ev_istore_n (lv1 := [some (.ref a), some (.int (0 : Int32)), none]) od_33_1 rfl rfl ?_
  refine ev_iconst (v := (0 : Int32)) od_33_2 (by decide) ?_
  refine ev_istore_n (lv1 := [some (.ref a), some (.int (0 : Int32)), some (.int (0 : Int32))]) od_33_3 rfl rfl ?_
  obtain ⟨e5, he5, h⟩ := ov_bd h
  try dsimp only at h
  refine ov_lp_S (body := (fun s => b33_4 a S s.1 s.2)) (head := (fun s => ov_J L 3 33 4 [some (.ref a), some (.int s.1), some (.int s.2)] [] S G P)) (exit := (fun e => ov_J L 3 33 39 [none, some (.int e), none] [] S G P)) (fun s r hb hk => bt33_4 ha hb hk) 2000 ((0 : Int32), (0 : Int32)) e5 he5 ?_
  show ov_J L 3 33 39 [none, some (.int e5), none] [] S G P
  refine ev_iload_n od_33_39 rfl ?_
  cases h
  exact ev_iret od_33_40 rfl hP
theorem R33 {L : Nat} {S : ov_S} {G : ov_L2} {a : Nat} (ha : ov_St a) {out : Int32} (h : f33 a S = some out) : ov_R L 4 33 [.ref a] S G (some (.int out)) S G :=
  ov_Rof (t33 ha h ⟨rfl, rfl, rfl⟩)
-- 37 OE$Stage.shownCells
def f37 (a : Nat) (S : ov_S) : Option (Int32) :=
  (f38 a S (63 : Int32)).bind fun y1 => some ((262143 : Int32) &&& (((y1 <<< ((6 : Int32) &&& 31)) ||| (y1 <<< ((12 : Int32) &&& 31))) ^^^ (-1 : Int32)))
theorem t37 {L : Nat} {S : ov_S} {G : ov_L2} {a : Nat} {P : Option Value → ov_S → ov_L2 → Prop} (ha : ov_St a) {out : Int32} (h : f37 a S = some out) (hP : P (some (.int out)) S G) : ov_J L 3 37 0 [some (.ref a), none] [] S G P := by
  unfold f37 at h
  refine ev_aload_n od_37_0 rfl ?_
  refine ev_bipush (v := (63 : Int32)) od_37_1 (by decide) ?_
  obtain ⟨y1, hy1, h⟩ := ov_bd h
  try dsimp only at h
  refine ev_cvi (y := 38) (n := 1) (a := a) (c := 3) (as := [.int (63 : Int32)]) (rest := []) (dc := 3) oc_37_3 rfl rfl rfl (st_O ha) rfl rfl rfl rfl (by decide) (R38 ha hy1) ?_
  refine ev_istore_n (lv1 := [some (.ref a), some (.int y1)]) od_37_6 rfl rfl ?_
  obtain ⟨w2, hw2⟩ := ok_37_7
  refine ev_ldc od_37_7 hw2 ?_
  refine ev_iload_n od_37_9 rfl ?_
  refine ev_bipush (v := (6 : Int32)) od_37_10 (by decide) ?_
  refine ev_ishl od_37_12 ?_
  refine ev_iload_n od_37_13 rfl ?_
  refine ev_bipush (v := (12 : Int32)) od_37_14 (by decide) ?_
  refine ev_ishl od_37_16 ?_
  refine ev_ior od_37_17 ?_
  refine ev_iconst (v := (-1 : Int32)) od_37_18 (by decide) ?_
  refine ev_ixor od_37_19 ?_
  refine ev_iand od_37_20 ?_
  cases h
  exact ev_iret od_37_21 rfl hP
theorem R37 {L : Nat} {S : ov_S} {G : ov_L2} {a : Nat} (ha : ov_St a) {out : Int32} (h : f37 a S = some out) : ov_R L 4 37 [.ref a] S G (some (.int out)) S G :=
  ov_Rof (t37 ha h ⟨rfl, rfl, rfl⟩)
-- 42 OE$Stage.heardAmong
def f42_111_16 (a : Nat) (S : ov_S) (x1 : Int32) (x2 : Int32) (x3 : Int32) (x4 : Int32) : Option ((Int32 × Int32) ⊕ (Int32)) :=
  some (.inl (x3, (x4 + (1 : Int32))))
theorem t42_111_16 {L : Nat} {S : ov_S} {G : ov_L2} {a : Nat} {x1 : Int32} {x2 : Int32} {x3 : Int32} {x4 : Int32} {P : Option Value → ov_S → ov_L2 → Prop} (ha : ov_St a) {out : (Int32 × Int32) ⊕ (Int32)} (h : f42_111_16 a S x1 x2 x3 x4 = some out) (hk : ov_sm (σ := Int32 × Int32) (ε := (Int32)) (fun s => ov_J L 3 42 16 [some (.ref a), some (.int x1), some (.int x2), some (.int s.1), some (.int s.2), none, none, none] [] S G P) (fun e => ov_J L 3 42 117 [none, none, none, some (.int e), none, none, none, none] [] S G P) out) : ov_J L 3 42 111 [some (.ref a), some (.int x1), some (.int x2), some (.int x3), some (.int x4), none, none, none] [] S G P := by
  unfold f42_111_16 at h
  refine ev_iinc (v := (x4 + (1 : Int32))) (lv1 := [some (.ref a), some (.int x1), some (.int x2), some (.int x3), some (.int (x4 + (1 : Int32))), none, none, none]) od_42_111 rfl rfl rfl ?_
  refine ev_goto (t := 16) od_42_114 (by decide) ?_
  cases h
  exact hk
def f42_85_16 (a : Nat) (S : ov_S) (x1 : Int32) (x2 : Int32) (x3 : Int32) (x4 : Int32) (x5 : Int32) (x6 : Int32) (s0 : Int32) : Option ((Int32 × Int32) ⊕ (Int32)) :=
  (if s0 = 0 then f42_111_16 a S x1 x2 x3 x4 else (f47 a S x5 x6 x2).bind fun y6 => (if y6 = 0 then f42_111_16 a S x1 x2 x3 x4 else (f27 x3 x4).bind fun y7 => f42_111_16 a S x1 x2 y7 x4))
theorem t42_85_16 {L : Nat} {S : ov_S} {G : ov_L2} {a : Nat} {x1 : Int32} {x2 : Int32} {x3 : Int32} {x4 : Int32} {x5 : Int32} {x6 : Int32} {s0 : Int32} {P : Option Value → ov_S → ov_L2 → Prop} (ha : ov_St a) {out : (Int32 × Int32) ⊕ (Int32)} (h : f42_85_16 a S x1 x2 x3 x4 x5 x6 s0 = some out) (hk : ov_sm (σ := Int32 × Int32) (ε := (Int32)) (fun s => ov_J L 3 42 16 [some (.ref a), some (.int x1), some (.int x2), some (.int s.1), some (.int s.2), none, none, none] [] S G P) (fun e => ov_J L 3 42 117 [none, none, none, some (.int e), none, none, none, none] [] S G P) out) : ov_J L 3 42 85 [some (.ref a), some (.int x1), some (.int x2), some (.int x3), some (.int x4), some (.int x5), some (.int x6), none] [.int s0] S G P := by
  unfold f42_85_16 at h
  refine ev_istore (lv1 := [some (.ref a), some (.int x1), some (.int x2), some (.int x3), some (.int x4), some (.int x5), some (.int x6), some (.int s0)]) od_42_85 rfl rfl ?_
  refine ev_iload od_42_87 rfl ?_
  refine ev_if_eq (t := 111) od_42_89 (by decide) (fun hc9 => ?_) (fun hc9 => ?_)
  · rw [if_pos hc9] at h
    refine ev_fg (lv0 := [some (.ref a), some (.int x1), some (.int x2), some (.int x3), some (.int x4), none, none, none]) (ov_le_s (ov_le_s (ov_le_s (ov_le_s (ov_le_s (ov_le_n (ov_le_n (ov_le_n (ov_le_e))))))))) ?_
    exact t42_111_16 ha h hk
  · rw [if_neg hc9] at h
    refine ev_aload_n od_42_92 rfl ?_
    refine ev_iload od_42_93 rfl ?_
    refine ev_iload od_42_95 rfl ?_
    refine ev_iload_n od_42_97 rfl ?_
    obtain ⟨y6, hy6, h⟩ := ov_bd h
    try dsimp only at h
    refine ev_cvi (y := 47) (n := 3) (a := a) (c := 3) (as := [.int x5, .int x6, .int x2]) (rest := []) (dc := 3) oc_42_98 rfl rfl rfl (st_O ha) rfl rfl rfl rfl (by decide) (R47 ha hy6) ?_
    refine ev_if_eq (t := 111) od_42_101 (by decide) (fun hc8 => ?_) (fun hc8 => ?_)
    · rw [if_pos hc8] at h
      refine ev_fg (lv0 := [some (.ref a), some (.int x1), some (.int x2), some (.int x3), some (.int x4), none, none, none]) (ov_le_s (ov_le_s (ov_le_s (ov_le_s (ov_le_s (ov_le_n (ov_le_n (ov_le_n (ov_le_e))))))))) ?_
      exact t42_111_16 ha h hk
    · rw [if_neg hc8] at h
      refine ev_iload_n od_42_104 rfl ?_
      refine ev_iload od_42_105 rfl ?_
      obtain ⟨y7, hy7, h⟩ := ov_bd h
      try dsimp only at h
      refine ev_csi (y := 27) (n := 2) (as := [.int x3, .int x4]) (rest := []) (dc := 1) oc_42_107 rfl rfl rfl rfl rfl (by decide) (R27  hy7) ?_
      refine ev_istore_n (lv1 := [some (.ref a), some (.int x1), some (.int x2), some (.int y7), some (.int x4), some (.int x5), some (.int x6), some (.int s0)]) od_42_110 rfl rfl ?_
      refine ev_fg (lv0 := [some (.ref a), some (.int x1), some (.int x2), some (.int y7), some (.int x4), none, none, none]) (ov_le_s (ov_le_s (ov_le_s (ov_le_s (ov_le_s (ov_le_n (ov_le_n (ov_le_n (ov_le_e))))))))) ?_
      exact t42_111_16 ha h hk
def f42_84_16 (a : Nat) (S : ov_S) (x1 : Int32) (x2 : Int32) (x3 : Int32) (x4 : Int32) (x5 : Int32) (x6 : Int32) : Option ((Int32 × Int32) ⊕ (Int32)) :=
  f42_85_16 a S x1 x2 x3 x4 x5 x6 (0 : Int32)
theorem t42_84_16 {L : Nat} {S : ov_S} {G : ov_L2} {a : Nat} {x1 : Int32} {x2 : Int32} {x3 : Int32} {x4 : Int32} {x5 : Int32} {x6 : Int32} {P : Option Value → ov_S → ov_L2 → Prop} (ha : ov_St a) {out : (Int32 × Int32) ⊕ (Int32)} (h : f42_84_16 a S x1 x2 x3 x4 x5 x6 = some out) (hk : ov_sm (σ := Int32 × Int32) (ε := (Int32)) (fun s => ov_J L 3 42 16 [some (.ref a), some (.int x1), some (.int x2), some (.int s.1), some (.int s.2), none, none, none] [] S G P) (fun e => ov_J L 3 42 117 [none, none, none, some (.int e), none, none, none, none] [] S G P) out) : ov_J L 3 42 84 [some (.ref a), some (.int x1), some (.int x2), some (.int x3), some (.int x4), some (.int x5), some (.int x6), none] [] S G P := by
  unfold f42_84_16 at h
  refine ev_iconst (v := (0 : Int32)) od_42_84 (by decide) ?_
  exact t42_85_16 ha h hk
def b42_16 (a : Nat) (S : ov_S) (x1 : Int32) (x2 : Int32) (x3 : Int32) (x4 : Int32) : Option ((Int32 × Int32) ⊕ (Int32)) :=
  (if (S 4 3) ≤ x4 then some (.inr x3) else (f44 4 S x4).bind fun y3 => (f46 4 S x4).bind fun y4 => (f23 (S a 3) x4).bind fun y5 => (if y5 = 0 then (f23 x1 y3).bind fun y10 => (if y10 = 0 then f42_84_16 a S x1 x2 x3 x4 y3 y4 else (f23 x1 y4).bind fun y11 => (if y11 = 0 then f42_84_16 a S x1 x2 x3 x4 y3 y4 else f42_85_16 a S x1 x2 x3 x4 y3 y4 (1 : Int32))) else f42_84_16 a S x1 x2 x3 x4 y3 y4))
theorem bt42_16 {L : Nat} {S : ov_S} {G : ov_L2} {a : Nat} {x1 : Int32} {x2 : Int32} {x3 : Int32} {x4 : Int32} {P : Option Value → ov_S → ov_L2 → Prop} (ha : ov_St a) {out : (Int32 × Int32) ⊕ (Int32)} (h : b42_16 a S x1 x2 x3 x4 = some out) (hk : ov_sm (σ := Int32 × Int32) (ε := (Int32)) (fun s => ov_J L 3 42 16 [some (.ref a), some (.int x1), some (.int x2), some (.int s.1), some (.int s.2), none, none, none] [] S G P) (fun e => ov_J L 3 42 117 [none, none, none, some (.int e), none, none, none, none] [] S G P) out) : ov_J L 3 42 16 [some (.ref a), some (.int x1), some (.int x2), some (.int x3), some (.int x4), none, none, none] [] S G P := by
  unfold b42_16 at h
  refine ev_iload od_42_16 rfl ?_
  refine ev_aload_n od_42_18 rfl ?_
  refine ev_gf (v := .ref 4) og_42_19 (st_O ha) (st_v0 ha) ?_
  refine ev_gf (v := .int (S 4 3)) og_42_22 oO_4 rfl ?_
  refine ev_icmp_ge (t := 117) od_42_25 (by decide) (fun hc15 => ?_) (fun hc15 => ?_)
  · rw [if_pos hc15] at h
    cases h
    refine ev_fg (lv0 := [none, none, none, some (.int x3), none, none, none, none]) (ov_le_n (ov_le_n (ov_le_n (ov_le_s (ov_le_n (ov_le_n (ov_le_n (ov_le_n (ov_le_e))))))))) ?_
    exact hk
  · rw [if_neg hc15] at h
    refine ev_aload_n od_42_28 rfl ?_
    refine ev_gf (v := .ref 4) og_42_29 (st_O ha) (st_v0 ha) ?_
    refine ev_iload od_42_32 rfl ?_
    obtain ⟨y3, hy3, h⟩ := ov_bd h
    try dsimp only at h
    refine ev_cvi (y := 44) (n := 1) (a := 4) (c := 2) (as := [.int x4]) (rest := []) (dc := 2) oc_42_34 rfl rfl rfl oO_4 rfl rfl rfl rfl (by decide) (R44 oP_4 hy3) ?_
    refine ev_istore (lv1 := [some (.ref a), some (.int x1), some (.int x2), some (.int x3), some (.int x4), some (.int y3), none, none]) od_42_37 rfl rfl ?_
    refine ev_aload_n od_42_39 rfl ?_
    refine ev_gf (v := .ref 4) og_42_40 (st_O ha) (st_v0 ha) ?_
    refine ev_iload od_42_43 rfl ?_
    obtain ⟨y4, hy4, h⟩ := ov_bd h
    try dsimp only at h
    refine ev_cvi (y := 46) (n := 1) (a := 4) (c := 2) (as := [.int x4]) (rest := []) (dc := 2) oc_42_45 rfl rfl rfl oO_4 rfl rfl rfl rfl (by decide) (R46 oP_4 hy4) ?_
    refine ev_istore (lv1 := [some (.ref a), some (.int x1), some (.int x2), some (.int x3), some (.int x4), some (.int y3), some (.int y4), none]) od_42_48 rfl rfl ?_
    refine ev_aload_n od_42_50 rfl ?_
    refine ev_gf (v := .int (S a 3)) og_42_51 (st_O ha) (st_v3 ha) ?_
    refine ev_iload od_42_54 rfl ?_
    obtain ⟨y5, hy5, h⟩ := ov_bd h
    try dsimp only at h
    refine ev_csi (y := 23) (n := 2) (as := [.int (S a 3), .int x4]) (rest := []) (dc := 1) oc_42_56 rfl rfl rfl rfl rfl (by decide) (R23  hy5) ?_
    refine ev_if_ne (t := 84) od_42_59 (by decide) (fun hc14 => ?_) (fun hc14 => ?_)
    · rw [if_neg hc14] at h
      exact t42_84_16 ha h hk
    · rw [if_pos hc14] at h
      refine ev_iload_n od_42_62 rfl ?_
      refine ev_iload od_42_63 rfl ?_
      obtain ⟨y10, hy10, h⟩ := ov_bd h
      try dsimp only at h
      refine ev_csi (y := 23) (n := 2) (as := [.int x1, .int y3]) (rest := []) (dc := 1) oc_42_65 rfl rfl rfl rfl rfl (by decide) (R23  hy10) ?_
      refine ev_if_eq (t := 84) od_42_68 (by decide) (fun hc13 => ?_) (fun hc13 => ?_)
      · rw [if_pos hc13] at h
        exact t42_84_16 ha h hk
      · rw [if_neg hc13] at h
        refine ev_iload_n od_42_71 rfl ?_
        refine ev_iload od_42_72 rfl ?_
        obtain ⟨y11, hy11, h⟩ := ov_bd h
        try dsimp only at h
        refine ev_csi (y := 23) (n := 2) (as := [.int x1, .int y4]) (rest := []) (dc := 1) oc_42_74 rfl rfl rfl rfl rfl (by decide) (R23  hy11) ?_
        refine ev_if_eq (t := 84) od_42_77 (by decide) (fun hc12 => ?_) (fun hc12 => ?_)
        · rw [if_pos hc12] at h
          exact t42_84_16 ha h hk
        · rw [if_neg hc12] at h
          refine ev_iconst (v := (1 : Int32)) od_42_80 (by decide) ?_
          refine ev_goto (t := 85) od_42_81 (by decide) ?_
          exact t42_85_16 ha h hk
def f42 (a : Nat) (S : ov_S) (x1 : Int32) : Option (Int32) :=
  (f43 a S).bind fun y1 => (f38 a S x1).bind fun y2 => ((ov_lp (fun s => b42_16 a S x1 (y1 ||| y2) s.1 s.2) 2000 ((0 : Int32), (0 : Int32))).bind fun e16 => some e16)
theorem t42 {L : Nat} {S : ov_S} {G : ov_L2} {a : Nat} {x1 : Int32} {P : Option Value → ov_S → ov_L2 → Prop} (ha : ov_St a) {out : Int32} (h : f42 a S x1 = some out) (hP : P (some (.int out)) S G) : ov_J L 3 42 0 [some (.ref a), some (.int x1), none, none, none, none, none, none] [] S G P := by
  unfold f42 at h
  refine ev_aload_n od_42_0 rfl ?_
  obtain ⟨y1, hy1, h⟩ := ov_bd h
  try dsimp only at h
  refine ev_cvi (y := 43) (n := 0) (a := a) (c := 3) (as := []) (rest := []) (dc := 2) oc_42_1 rfl rfl rfl (st_O ha) rfl rfl rfl rfl (by decide) (R43 ha hy1) ?_
  refine ev_aload_n od_42_4 rfl ?_
  refine ev_iload_n od_42_5 rfl ?_
  obtain ⟨y2, hy2, h⟩ := ov_bd h
  try dsimp only at h
  refine ev_cvi (y := 38) (n := 1) (a := a) (c := 3) (as := [.int x1]) (rest := [.int y1]) (dc := 3) oc_42_6 rfl rfl rfl (st_O ha) rfl rfl rfl rfl (by decide) (R38 ha hy2) ?_
  refine ev_ior od_42_9 ?_
  refine ev_istore_n (lv1 := [some (.ref a), some (.int x1), some (.int (y1 ||| y2)), none, none, none, none, none]) od_42_10 rfl rfl ?_
  refine ev_iconst (v := (0 : Int32)) od_42_11 (by decide) ?_
  refine ev_istore_n (lv1 := [some (.ref a), some (.int x1), some (.int (y1 ||| y2)), some (.int (0 : Int32)), none, none, none, none]) od_42_12 rfl rfl ?_
  refine ev_iconst (v := (0 : Int32)) od_42_13 (by decide) ?_
  refine ev_istore (lv1 := [some (.ref a), some (.int x1), some (.int (y1 ||| y2)), some (.int (0 : Int32)), some (.int (0 : Int32)), none, none, none]) od_42_14 rfl rfl ?_
  obtain ⟨e16, he16, h⟩ := ov_bd h
  try dsimp only at h
  refine ov_lp_S (body := (fun s => b42_16 a S x1 (y1 ||| y2) s.1 s.2)) (head := (fun s => ov_J L 3 42 16 [some (.ref a), some (.int x1), some (.int (y1 ||| y2)), some (.int s.1), some (.int s.2), none, none, none] [] S G P)) (exit := (fun e => ov_J L 3 42 117 [none, none, none, some (.int e), none, none, none, none] [] S G P)) (fun s r hb hk => bt42_16 ha hb hk) 2000 ((0 : Int32), (0 : Int32)) e16 he16 ?_
  show ov_J L 3 42 117 [none, none, none, some (.int e16), none, none, none, none] [] S G P
  refine ev_iload_n od_42_117 rfl ?_
  cases h
  exact ev_iret od_42_118 rfl hP
theorem R42 {L : Nat} {S : ov_S} {G : ov_L2} {a : Nat} {x1 : Int32} (ha : ov_St a) {out : Int32} (h : f42 a S x1 = some out) : ov_R L 4 42 [.ref a, .int x1] S G (some (.int out)) S G :=
  ov_Rof (t42 ha h ⟨rfl, rfl, rfl⟩)
-- 65 OE$Stage.inSightOf
def f65_50_17 (a : Nat) (S : ov_S) (x1 : Int32) (x2 : Int32) (x4 : Int32) (s0 : Int32) : Option ((Int32 × Int32) ⊕ (Int32)) :=
  some (.inl (s0, (x4 + (1 : Int32))))
theorem t65_50_17 {L : Nat} {S : ov_S} {G : ov_L2} {a : Nat} {x1 : Int32} {x2 : Int32} {x4 : Int32} {s0 : Int32} {P : Option Value → ov_S → ov_L2 → Prop} (ha : ov_St a) {out : (Int32 × Int32) ⊕ (Int32)} (h : f65_50_17 a S x1 x2 x4 s0 = some out) (hk : ov_sm (σ := Int32 × Int32) (ε := (Int32)) (fun s => ov_J L 3 65 17 [some (.ref a), some (.int x1), some (.int x2), some (.int s.1), some (.int s.2)] [] S G P) (fun e => ov_J L 3 65 57 [none, none, none, some (.int e), none] [] S G P) out) : ov_J L 3 65 50 [some (.ref a), some (.int x1), some (.int x2), none, some (.int x4)] [.int s0] S G P := by
  unfold f65_50_17 at h
  refine ev_istore_n (lv1 := [some (.ref a), some (.int x1), some (.int x2), some (.int s0), some (.int x4)]) od_65_50 rfl rfl ?_
  refine ev_iinc (v := (x4 + (1 : Int32))) (lv1 := [some (.ref a), some (.int x1), some (.int x2), some (.int s0), some (.int (x4 + (1 : Int32)))]) od_65_51 rfl rfl rfl ?_
  refine ev_goto (t := 17) od_65_54 (by decide) ?_
  cases h
  exact hk
def b65_17 (a : Nat) (S : ov_S) (x1 : Int32) (x2 : Int32) (x3 : Int32) (x4 : Int32) : Option ((Int32 × Int32) ⊕ (Int32)) :=
  (if (S 4 2) ≤ x4 then some (.inr x3) else (f47 a S x1 x4 x2).bind fun y3 => (if y3 = 0 then f65_50_17 a S x1 x2 x4 x3 else (f27 x3 x4).bind fun y4 => f65_50_17 a S x1 x2 x4 y4))
theorem bt65_17 {L : Nat} {S : ov_S} {G : ov_L2} {a : Nat} {x1 : Int32} {x2 : Int32} {x3 : Int32} {x4 : Int32} {P : Option Value → ov_S → ov_L2 → Prop} (ha : ov_St a) {out : (Int32 × Int32) ⊕ (Int32)} (h : b65_17 a S x1 x2 x3 x4 = some out) (hk : ov_sm (σ := Int32 × Int32) (ε := (Int32)) (fun s => ov_J L 3 65 17 [some (.ref a), some (.int x1), some (.int x2), some (.int s.1), some (.int s.2)] [] S G P) (fun e => ov_J L 3 65 57 [none, none, none, some (.int e), none] [] S G P) out) : ov_J L 3 65 17 [some (.ref a), some (.int x1), some (.int x2), some (.int x3), some (.int x4)] [] S G P := by
  unfold b65_17 at h
  refine ev_iload od_65_17 rfl ?_
  refine ev_aload_n od_65_19 rfl ?_
  refine ev_gf (v := .ref 4) og_65_20 (st_O ha) (st_v0 ha) ?_
  refine ev_gf (v := .int (S 4 2)) og_65_23 oO_4 rfl ?_
  refine ev_icmp_ge (t := 57) od_65_26 (by decide) (fun hc6 => ?_) (fun hc6 => ?_)
  · rw [if_pos hc6] at h
    cases h
    refine ev_fg (lv0 := [none, none, none, some (.int x3), none]) (ov_le_n (ov_le_n (ov_le_n (ov_le_s (ov_le_n (ov_le_e)))))) ?_
    exact hk
  · rw [if_neg hc6] at h
    refine ev_aload_n od_65_29 rfl ?_
    refine ev_iload_n od_65_30 rfl ?_
    refine ev_iload od_65_31 rfl ?_
    refine ev_iload_n od_65_33 rfl ?_
    obtain ⟨y3, hy3, h⟩ := ov_bd h
    try dsimp only at h
    refine ev_cvi (y := 47) (n := 3) (a := a) (c := 3) (as := [.int x1, .int x4, .int x2]) (rest := []) (dc := 3) oc_65_34 rfl rfl rfl (st_O ha) rfl rfl rfl rfl (by decide) (R47 ha hy3) ?_
    refine ev_if_eq (t := 49) od_65_37 (by decide) (fun hc5 => ?_) (fun hc5 => ?_)
    · rw [if_pos hc5] at h
      refine ev_iload_n od_65_49 rfl ?_
      refine ev_fg (lv0 := [some (.ref a), some (.int x1), some (.int x2), none, some (.int x4)]) (ov_le_s (ov_le_s (ov_le_s (ov_le_n (ov_le_s (ov_le_e)))))) ?_
      exact t65_50_17 ha h hk
    · rw [if_neg hc5] at h
      refine ev_iload_n od_65_40 rfl ?_
      refine ev_iload od_65_41 rfl ?_
      obtain ⟨y4, hy4, h⟩ := ov_bd h
      try dsimp only at h
      refine ev_csi (y := 27) (n := 2) (as := [.int x3, .int x4]) (rest := []) (dc := 1) oc_65_43 rfl rfl rfl rfl rfl (by decide) (R27  hy4) ?_
      refine ev_goto (t := 50) od_65_46 (by decide) ?_
      refine ev_fg (lv0 := [some (.ref a), some (.int x1), some (.int x2), none, some (.int x4)]) (ov_le_s (ov_le_s (ov_le_s (ov_le_n (ov_le_s (ov_le_e)))))) ?_
      exact t65_50_17 ha h hk
def f65 (a : Nat) (S : ov_S) (x1 : Int32) : Option (Int32) :=
  (f43 a S).bind fun y1 => (f38 a S (63 : Int32)).bind fun y2 => ((ov_lp (fun s => b65_17 a S x1 (y1 ||| y2) s.1 s.2) 2000 ((0 : Int32), (0 : Int32))).bind fun e7 => some e7)
theorem t65 {L : Nat} {S : ov_S} {G : ov_L2} {a : Nat} {x1 : Int32} {P : Option Value → ov_S → ov_L2 → Prop} (ha : ov_St a) {out : Int32} (h : f65 a S x1 = some out) (hP : P (some (.int out)) S G) : ov_J L 3 65 0 [some (.ref a), some (.int x1), none, none, none] [] S G P := by
  unfold f65 at h
  refine ev_aload_n od_65_0 rfl ?_
  obtain ⟨y1, hy1, h⟩ := ov_bd h
  try dsimp only at h
  refine ev_cvi (y := 43) (n := 0) (a := a) (c := 3) (as := []) (rest := []) (dc := 2) oc_65_1 rfl rfl rfl (st_O ha) rfl rfl rfl rfl (by decide) (R43 ha hy1) ?_
  refine ev_aload_n od_65_4 rfl ?_
  refine ev_bipush (v := (63 : Int32)) od_65_5 (by decide) ?_
  obtain ⟨y2, hy2, h⟩ := ov_bd h
  try dsimp only at h
  refine ev_cvi (y := 38) (n := 1) (a := a) (c := 3) (as := [.int (63 : Int32)]) (rest := [.int y1]) (dc := 3) oc_65_7 rfl rfl rfl (st_O ha) rfl rfl rfl rfl (by decide) (R38 ha hy2) ?_
  refine ev_ior od_65_10 ?_
  refine ev_istore_n (lv1 := [some (.ref a), some (.int x1), some (.int (y1 ||| y2)), none, none]) od_65_11 rfl rfl ?_
  refine ev_iconst (v := (0 : Int32)) od_65_12 (by decide) ?_
  refine ev_istore_n (lv1 := [some (.ref a), some (.int x1), some (.int (y1 ||| y2)), some (.int (0 : Int32)), none]) od_65_13 rfl rfl ?_
  refine ev_iconst (v := (0 : Int32)) od_65_14 (by decide) ?_
  refine ev_istore (lv1 := [some (.ref a), some (.int x1), some (.int (y1 ||| y2)), some (.int (0 : Int32)), some (.int (0 : Int32))]) od_65_15 rfl rfl ?_
  obtain ⟨e7, he7, h⟩ := ov_bd h
  try dsimp only at h
  refine ov_lp_S (body := (fun s => b65_17 a S x1 (y1 ||| y2) s.1 s.2)) (head := (fun s => ov_J L 3 65 17 [some (.ref a), some (.int x1), some (.int (y1 ||| y2)), some (.int s.1), some (.int s.2)] [] S G P)) (exit := (fun e => ov_J L 3 65 57 [none, none, none, some (.int e), none] [] S G P)) (fun s r hb hk => bt65_17 ha hb hk) 2000 ((0 : Int32), (0 : Int32)) e7 he7 ?_
  show ov_J L 3 65 57 [none, none, none, some (.int e7), none] [] S G P
  refine ev_iload_n od_65_57 rfl ?_
  cases h
  exact ev_iret od_65_58 rfl hP
theorem R65 {L : Nat} {S : ov_S} {G : ov_L2} {a : Nat} {x1 : Int32} (ha : ov_St a) {out : Int32} (h : f65 a S x1 = some out) : ov_R L 4 65 [.ref a, .int x1] S G (some (.int out)) S G :=
  ov_Rof (t65 ha h ⟨rfl, rfl, rfl⟩)
-- 66 OE$Stage.pathsOf
def f66 (a : Nat) (S : ov_S) (x1 : Int32) : Option (Int32) :=
  (f64 4 S x1).bind fun y1 => (if y1 = (1 : Int32) then some (0 : Int32) else (f53 a S).bind fun y2 => some y2)
theorem t66 {L : Nat} {S : ov_S} {G : ov_L2} {a : Nat} {x1 : Int32} {P : Option Value → ov_S → ov_L2 → Prop} (ha : ov_St a) {out : Int32} (h : f66 a S x1 = some out) (hP : P (some (.int out)) S G) : ov_J L 3 66 0 [some (.ref a), some (.int x1)] [] S G P := by
  unfold f66 at h
  refine ev_aload_n od_66_0 rfl ?_
  refine ev_gf (v := .ref 4) og_66_1 (st_O ha) (st_v0 ha) ?_
  refine ev_iload_n od_66_4 rfl ?_
  obtain ⟨y1, hy1, h⟩ := ov_bd h
  try dsimp only at h
  refine ev_cvi (y := 64) (n := 1) (a := 4) (c := 2) (as := [.int x1]) (rest := []) (dc := 2) oc_66_5 rfl rfl rfl oO_4 rfl rfl rfl rfl (by decide) (R64 oP_4 hy1) ?_
  refine ev_iconst (v := (1 : Int32)) od_66_8 (by decide) ?_
  refine ev_icmp_ne (t := 16) od_66_9 (by decide) (fun hc3 => ?_) (fun hc3 => ?_)
  · rw [if_neg hc3] at h
    refine ev_aload_n od_66_16 rfl ?_
    obtain ⟨y2, hy2, h⟩ := ov_bd h
    try dsimp only at h
    refine ev_cvi (y := 53) (n := 0) (a := a) (c := 3) (as := []) (rest := []) (dc := 3) oc_66_17 rfl rfl rfl (st_O ha) rfl rfl rfl rfl (by decide) (R53 ha hy2) ?_
    cases h
    exact ev_iret od_66_20 rfl hP
  · rw [if_pos hc3] at h
    refine ev_iconst (v := (0 : Int32)) od_66_12 (by decide) ?_
    refine ev_goto (t := 20) od_66_13 (by decide) ?_
    cases h
    exact ev_iret od_66_20 rfl hP
theorem R66 {L : Nat} {S : ov_S} {G : ov_L2} {a : Nat} {x1 : Int32} (ha : ov_St a) {out : Int32} (h : f66 a S x1 = some out) : ov_R L 4 66 [.ref a, .int x1] S G (some (.int out)) S G :=
  ov_Rof (t66 ha h ⟨rfl, rfl, rfl⟩)
-- 72 OE$Stage.loadOf
def f72_64_4 (a : Nat) (S : ov_S) (x1 : Int32) (x2 : Int32) (x3 : Int32) : Option ((Int32 × Int32) ⊕ (Int32)) :=
  some (.inl (x2, (x3 + (1 : Int32))))
theorem t72_64_4 {L : Nat} {S : ov_S} {G : ov_L2} {a : Nat} {x1 : Int32} {x2 : Int32} {x3 : Int32} {P : Option Value → ov_S → ov_L2 → Prop} (ha : ov_St a) {out : (Int32 × Int32) ⊕ (Int32)} (h : f72_64_4 a S x1 x2 x3 = some out) (hk : ov_sm (σ := Int32 × Int32) (ε := (Int32)) (fun s => ov_J L 3 72 4 [some (.ref a), some (.int x1), some (.int s.1), some (.int s.2)] [] S G P) (fun e => ov_J L 3 72 70 [none, none, some (.int e), none] [] S G P) out) : ov_J L 3 72 64 [some (.ref a), some (.int x1), some (.int x2), some (.int x3)] [] S G P := by
  unfold f72_64_4 at h
  refine ev_iinc (v := (x3 + (1 : Int32))) (lv1 := [some (.ref a), some (.int x1), some (.int x2), some (.int (x3 + (1 : Int32)))]) od_72_64 rfl rfl rfl ?_
  refine ev_goto (t := 4) od_72_67 (by decide) ?_
  cases h
  exact hk
def f72_61_4 (a : Nat) (S : ov_S) (x1 : Int32) (x3 : Int32) (s0 : Int32) (s1 : Int32) (s2 : Int32) : Option ((Int32 × Int32) ⊕ (Int32)) :=
  f72_64_4 a S x1 (s2 + (s1 + s0)) x3
theorem t72_61_4 {L : Nat} {S : ov_S} {G : ov_L2} {a : Nat} {x1 : Int32} {x3 : Int32} {s0 : Int32} {s1 : Int32} {s2 : Int32} {P : Option Value → ov_S → ov_L2 → Prop} (ha : ov_St a) {out : (Int32 × Int32) ⊕ (Int32)} (h : f72_61_4 a S x1 x3 s0 s1 s2 = some out) (hk : ov_sm (σ := Int32 × Int32) (ε := (Int32)) (fun s => ov_J L 3 72 4 [some (.ref a), some (.int x1), some (.int s.1), some (.int s.2)] [] S G P) (fun e => ov_J L 3 72 70 [none, none, some (.int e), none] [] S G P) out) : ov_J L 3 72 61 [some (.ref a), some (.int x1), none, some (.int x3)] [.int s0, .int s1, .int s2] S G P := by
  unfold f72_61_4 at h
  refine ev_iadd od_72_61 ?_
  refine ev_iadd od_72_62 ?_
  refine ev_istore_n (lv1 := [some (.ref a), some (.int x1), some (.int (s2 + (s1 + s0))), some (.int x3)]) od_72_63 rfl rfl ?_
  exact t72_64_4 ha h hk
def b72_4 (a : Nat) (S : ov_S) (x1 : Int32) (x2 : Int32) (x3 : Int32) : Option ((Int32 × Int32) ⊕ (Int32)) :=
  (if (S 4 2) ≤ x3 then some (.inr x2) else (f34 a S x3).bind fun y1 => (if y1 = 0 then f72_64_4 a S x1 x2 x3 else (f35 a S x3).bind fun y2 => (if (y2 - y2 / (6 : Int32) * (6 : Int32)) = x1 then (f63 4 S x3).bind fun y3 => (f64 4 S x3).bind fun y4 => (if y4 = (3 : Int32) then f72_61_4 a S x1 x3 (2 : Int32) y3 x2 else f72_61_4 a S x1 x3 (0 : Int32) y3 x2) else f72_64_4 a S x1 x2 x3)))
theorem bt72_4 {L : Nat} {S : ov_S} {G : ov_L2} {a : Nat} {x1 : Int32} {x2 : Int32} {x3 : Int32} {P : Option Value → ov_S → ov_L2 → Prop} (ha : ov_St a) {out : (Int32 × Int32) ⊕ (Int32)} (h : b72_4 a S x1 x2 x3 = some out) (hk : ov_sm (σ := Int32 × Int32) (ε := (Int32)) (fun s => ov_J L 3 72 4 [some (.ref a), some (.int x1), some (.int s.1), some (.int s.2)] [] S G P) (fun e => ov_J L 3 72 70 [none, none, some (.int e), none] [] S G P) out) : ov_J L 3 72 4 [some (.ref a), some (.int x1), some (.int x2), some (.int x3)] [] S G P := by
  unfold b72_4 at h
  refine ev_iload_n od_72_4 rfl ?_
  refine ev_aload_n od_72_5 rfl ?_
  refine ev_gf (v := .ref 4) og_72_6 (st_O ha) (st_v0 ha) ?_
  refine ev_gf (v := .int (S 4 2)) og_72_9 oO_4 rfl ?_
  refine ev_icmp_ge (t := 70) od_72_12 (by decide) (fun hc8 => ?_) (fun hc8 => ?_)
  · rw [if_pos hc8] at h
    cases h
    refine ev_fg (lv0 := [none, none, some (.int x2), none]) (ov_le_n (ov_le_n (ov_le_s (ov_le_n (ov_le_e))))) ?_
    exact hk
  · rw [if_neg hc8] at h
    refine ev_aload_n od_72_15 rfl ?_
    refine ev_iload_n od_72_16 rfl ?_
    obtain ⟨y1, hy1, h⟩ := ov_bd h
    try dsimp only at h
    refine ev_cvi (y := 34) (n := 1) (a := a) (c := 3) (as := [.int x3]) (rest := []) (dc := 3) oc_72_17 rfl rfl rfl (st_O ha) rfl rfl rfl rfl (by decide) (R34 ha hy1) ?_
    refine ev_if_eq (t := 64) od_72_20 (by decide) (fun hc7 => ?_) (fun hc7 => ?_)
    · rw [if_pos hc7] at h
      exact t72_64_4 ha h hk
    · rw [if_neg hc7] at h
      refine ev_aload_n od_72_23 rfl ?_
      refine ev_iload_n od_72_24 rfl ?_
      obtain ⟨y2, hy2, h⟩ := ov_bd h
      try dsimp only at h
      refine ev_cvi (y := 35) (n := 1) (a := a) (c := 3) (as := [.int x3]) (rest := []) (dc := 2) oc_72_25 rfl rfl rfl (st_O ha) rfl rfl rfl rfl (by decide) (R35 ha hy2) ?_
      refine ev_bipush (v := (6 : Int32)) od_72_28 (by decide) ?_
      refine ev_irem od_72_30 (by decide) ?_
      refine ev_iload_n od_72_31 rfl ?_
      refine ev_icmp_ne (t := 64) od_72_32 (by decide) (fun hc6 => ?_) (fun hc6 => ?_)
      · rw [if_neg hc6] at h
        exact t72_64_4 ha h hk
      · rw [if_pos hc6] at h
        refine ev_iload_n od_72_35 rfl ?_
        refine ev_aload_n od_72_36 rfl ?_
        refine ev_gf (v := .ref 4) og_72_37 (st_O ha) (st_v0 ha) ?_
        refine ev_iload_n od_72_40 rfl ?_
        obtain ⟨y3, hy3, h⟩ := ov_bd h
        try dsimp only at h
        refine ev_cvi (y := 63) (n := 1) (a := 4) (c := 2) (as := [.int x3]) (rest := [.int x2]) (dc := 2) oc_72_41 rfl rfl rfl oO_4 rfl rfl rfl rfl (by decide) (R63 oP_4 hy3) ?_
        refine ev_aload_n od_72_44 rfl ?_
        refine ev_gf (v := .ref 4) og_72_45 (st_O ha) (st_v0 ha) ?_
        refine ev_iload_n od_72_48 rfl ?_
        obtain ⟨y4, hy4, h⟩ := ov_bd h
        try dsimp only at h
        refine ev_cvi (y := 64) (n := 1) (a := 4) (c := 2) (as := [.int x3]) (rest := [.int y3, .int x2]) (dc := 2) oc_72_49 rfl rfl rfl oO_4 rfl rfl rfl rfl (by decide) (R64 oP_4 hy4) ?_
        refine ev_iconst (v := (3 : Int32)) od_72_52 (by decide) ?_
        refine ev_icmp_ne (t := 60) od_72_53 (by decide) (fun hc5 => ?_) (fun hc5 => ?_)
        · rw [if_neg hc5] at h
          refine ev_iconst (v := (0 : Int32)) od_72_60 (by decide) ?_
          refine ev_fg (lv0 := [some (.ref a), some (.int x1), none, some (.int x3)]) (ov_le_s (ov_le_s (ov_le_n (ov_le_s (ov_le_e))))) ?_
          exact t72_61_4 ha h hk
        · rw [if_pos hc5] at h
          refine ev_iconst (v := (2 : Int32)) od_72_56 (by decide) ?_
          refine ev_goto (t := 61) od_72_57 (by decide) ?_
          refine ev_fg (lv0 := [some (.ref a), some (.int x1), none, some (.int x3)]) (ov_le_s (ov_le_s (ov_le_n (ov_le_s (ov_le_e))))) ?_
          exact t72_61_4 ha h hk
def f72 (a : Nat) (S : ov_S) (x1 : Int32) : Option (Int32) :=
  ((ov_lp (fun s => b72_4 a S x1 s.1 s.2) 2000 ((0 : Int32), (0 : Int32))).bind fun e9 => some e9)
theorem t72 {L : Nat} {S : ov_S} {G : ov_L2} {a : Nat} {x1 : Int32} {P : Option Value → ov_S → ov_L2 → Prop} (ha : ov_St a) {out : Int32} (h : f72 a S x1 = some out) (hP : P (some (.int out)) S G) : ov_J L 3 72 0 [some (.ref a), some (.int x1), none, none] [] S G P := by
  unfold f72 at h
  refine ev_iconst (v := (0 : Int32)) od_72_0 (by decide) ?_
  refine ev_istore_n (lv1 := [some (.ref a), some (.int x1), some (.int (0 : Int32)), none]) od_72_1 rfl rfl ?_
  refine ev_iconst (v := (0 : Int32)) od_72_2 (by decide) ?_
  refine ev_istore_n (lv1 := [some (.ref a), some (.int x1), some (.int (0 : Int32)), some (.int (0 : Int32))]) od_72_3 rfl rfl ?_
  obtain ⟨e9, he9, h⟩ := ov_bd h
  try dsimp only at h
  refine ov_lp_S (body := (fun s => b72_4 a S x1 s.1 s.2)) (head := (fun s => ov_J L 3 72 4 [some (.ref a), some (.int x1), some (.int s.1), some (.int s.2)] [] S G P)) (exit := (fun e => ov_J L 3 72 70 [none, none, some (.int e), none] [] S G P)) (fun s r hb hk => bt72_4 ha hb hk) 2000 ((0 : Int32), (0 : Int32)) e9 he9 ?_
  show ov_J L 3 72 70 [none, none, some (.int e9), none] [] S G P
  refine ev_iload_n od_72_70 rfl ?_
  cases h
  exact ev_iret od_72_71 rfl hP
theorem R72 {L : Nat} {S : ov_S} {G : ov_L2} {a : Nat} {x1 : Int32} (ha : ov_St a) {out : Int32} (h : f72 a S x1 = some out) : ov_R L 4 72 [.ref a, .int x1] S G (some (.int out)) S G :=
  ov_Rof (t72 ha h ⟨rfl, rfl, rfl⟩)
-- 74 OE$Stage.putOn
def f74 (a : Nat) (S : ov_S) (x1 : Int32) (x2 : Int32) : Option (Int32 × ov_S) :=
  (f59 4 S x2).bind fun y1 => (f29 4 S x1).bind fun y2 => (if y2 = 0 then some ((0 : Int32), S) else (f34 a S x1).bind fun y3 => (if y3 = 0 then (f53 a S).bind fun y4 => (f23 y4 y1).bind fun y5 => (if y5 = 0 then some ((0 : Int32), S) else ov_ck (ov_ibb x1 6) (some ((1 : Int32), (ov_up (ov_up S (a + 1) (x1).toNatClampNeg y1) a 4 (((ov_up S (a + 1) (x1).toNatClampNeg y1) a 4) + (1 : Int32)))))) else some ((0 : Int32), S)))
theorem t74 {L : Nat} {S : ov_S} {G : ov_L2} {a : Nat} {x1 : Int32} {x2 : Int32} {P : Option Value → ov_S → ov_L2 → Prop} (ha : ov_St a) {out : Int32 × ov_S} (h : f74 a S x1 x2 = some out) (hP : P (some (.int out.1)) out.2 G) : ov_J L 3 74 0 [some (.ref a), some (.int x1), some (.int x2), none] [] S G P := by
  unfold f74 at h
  refine ev_aload_n od_74_0 rfl ?_
  refine ev_gf (v := .ref 4) og_74_1 (st_O ha) (st_v0 ha) ?_
  refine ev_iload_n od_74_4 rfl ?_
  obtain ⟨y1, hy1, h⟩ := ov_bd h
  try dsimp only at h
  refine ev_cvi (y := 59) (n := 1) (a := 4) (c := 2) (as := [.int x2]) (rest := []) (dc := 2) oc_74_5 rfl rfl rfl oO_4 rfl rfl rfl rfl (by decide) (R59 oP_4 hy1) ?_
  refine ev_istore_n (lv1 := [some (.ref a), some (.int x1), some (.int x2), some (.int y1)]) od_74_8 rfl rfl ?_
  refine ev_aload_n od_74_9 rfl ?_
  refine ev_gf (v := .ref 4) og_74_10 (st_O ha) (st_v0 ha) ?_
  refine ev_iload_n od_74_13 rfl ?_
  obtain ⟨y2, hy2, h⟩ := ov_bd h
  try dsimp only at h
  refine ev_cvi (y := 29) (n := 1) (a := 4) (c := 2) (as := [.int x1]) (rest := []) (dc := 1) oc_74_14 rfl rfl rfl oO_4 rfl rfl rfl rfl (by decide) (R29 oP_4 hy2) ?_
  refine ev_if_eq (t := 39) od_74_17 (by decide) (fun hc9 => ?_) (fun hc9 => ?_)
  · rw [if_pos hc9] at h
    refine ev_iconst (v := (0 : Int32)) od_74_39 (by decide) ?_
    cases h
    exact ev_zret od_74_40 rfl (by decide) hP
  · rw [if_neg hc9] at h
    refine ev_aload_n od_74_20 rfl ?_
    refine ev_iload_n od_74_21 rfl ?_
    obtain ⟨y3, hy3, h⟩ := ov_bd h
    try dsimp only at h
    refine ev_cvi (y := 34) (n := 1) (a := a) (c := 3) (as := [.int x1]) (rest := []) (dc := 3) oc_74_22 rfl rfl rfl (st_O ha) rfl rfl rfl rfl (by decide) (R34 ha hy3) ?_
    refine ev_if_ne (t := 39) od_74_25 (by decide) (fun hc8 => ?_) (fun hc8 => ?_)
    · rw [if_neg hc8] at h
      refine ev_iconst (v := (0 : Int32)) od_74_39 (by decide) ?_
      cases h
      exact ev_zret od_74_40 rfl (by decide) hP
    · rw [if_pos hc8] at h
      refine ev_aload_n od_74_28 rfl ?_
      obtain ⟨y4, hy4, h⟩ := ov_bd h
      try dsimp only at h
      refine ev_cvi (y := 53) (n := 0) (a := a) (c := 3) (as := []) (rest := []) (dc := 3) oc_74_29 rfl rfl rfl (st_O ha) rfl rfl rfl rfl (by decide) (R53 ha hy4) ?_
      refine ev_iload_n od_74_32 rfl ?_
      obtain ⟨y5, hy5, h⟩ := ov_bd h
      try dsimp only at h
      refine ev_csi (y := 23) (n := 2) (as := [.int y4, .int y1]) (rest := []) (dc := 1) oc_74_33 rfl rfl rfl rfl rfl (by decide) (R23  hy5) ?_
      refine ev_if_ne (t := 41) od_74_36 (by decide) (fun hc7 => ?_) (fun hc7 => ?_)
      · rw [if_neg hc7] at h
        refine ev_aload_n od_74_41 rfl ?_
        refine ev_gf (v := .ref (a + 1)) og_74_42 (st_O ha) (st_v1 ha) ?_
        refine ev_iload_n od_74_45 rfl ?_
        refine ev_iload_n od_74_46 rfl ?_
        obtain ⟨bq6, h⟩ := ov_ck_ok h
        refine ev_iast od_74_47 (st_A1 ha) (st_i1 ha bq6) ?_
        refine ev_aload_n od_74_48 rfl ?_
        refine ev_dup od_74_49 rfl ?_
        refine ev_gf (v := .int ((ov_up S (a + 1) (x1).toNatClampNeg y1) a 4)) og_74_50 (st_O ha) (st_v4 ha) ?_
        refine ev_iconst (v := (1 : Int32)) od_74_53 (by decide) ?_
        refine ev_iadd od_74_54 ?_
        refine ev_pf op_74_55 (st_O ha) (st_c4 ha) rfl ?_
        refine ev_iconst (v := (1 : Int32)) od_74_58 (by decide) ?_
        cases h
        exact ev_zret od_74_59 rfl (by decide) hP
      · rw [if_pos hc7] at h
        refine ev_iconst (v := (0 : Int32)) od_74_39 (by decide) ?_
        cases h
        exact ev_zret od_74_40 rfl (by decide) hP
theorem R74 {L : Nat} {S : ov_S} {G : ov_L2} {a : Nat} {x1 : Int32} {x2 : Int32} (ha : ov_St a) {out : Int32 × ov_S} (h : f74 a S x1 x2 = some out) : ov_R L 4 74 [.ref a, .int x1, .int x2] S G (some (.int out.1)) out.2 G :=
  ov_Rof (t74 ha h ⟨rfl, rfl, rfl⟩)
-- 83 OE$Stage.push
def f83 (a : Nat) (S : ov_S) (x1 : Int32) (x2 : Int32) : Option (Int32 × ov_S) :=
  (f7 4 S x1).bind fun y1 => (if y1 = 0 then some ((0 : Int32), S) else (f53 a S).bind fun y2 => (f84 4 S).bind fun y3 => (f23 (y2 &&& (y3 ^^^ (-1 : Int32))) x2).bind fun y4 => (if y4 = 0 then some ((0 : Int32), S) else ov_ck (ov_ibb x1 4) (some ((1 : Int32), (ov_up (ov_up S (a + 2) (x1).toNatClampNeg x2) a 4 (((ov_up S (a + 2) (x1).toNatClampNeg x2) a 4) + (1 : Int32)))))))
theorem t83 {L : Nat} {S : ov_S} {G : ov_L2} {a : Nat} {x1 : Int32} {x2 : Int32} {P : Option Value → ov_S → ov_L2 → Prop} (ha : ov_St a) {out : Int32 × ov_S} (h : f83 a S x1 x2 = some out) (hP : P (some (.int out.1)) out.2 G) : ov_J L 3 83 0 [some (.ref a), some (.int x1), some (.int x2)] [] S G P := by
  unfold f83 at h
  refine ev_aload_n od_83_0 rfl ?_
  refine ev_gf (v := .ref 4) og_83_1 (st_O ha) (st_v0 ha) ?_
  refine ev_iload_n od_83_4 rfl ?_
  obtain ⟨y1, hy1, h⟩ := ov_bd h
  try dsimp only at h
  refine ev_cvi (y := 7) (n := 1) (a := 4) (c := 2) (as := [.int x1]) (rest := []) (dc := 1) oc_83_5 rfl rfl rfl oO_4 rfl rfl rfl rfl (by decide) (R7 oP_4 hy1) ?_
  refine ev_if_eq (t := 32) od_83_8 (by decide) (fun hc7 => ?_) (fun hc7 => ?_)
  · rw [if_pos hc7] at h
    refine ev_iconst (v := (0 : Int32)) od_83_32 (by decide) ?_
    cases h
    exact ev_zret od_83_33 rfl (by decide) hP
  · rw [if_neg hc7] at h
    refine ev_aload_n od_83_11 rfl ?_
    obtain ⟨y2, hy2, h⟩ := ov_bd h
    try dsimp only at h
    refine ev_cvi (y := 53) (n := 0) (a := a) (c := 3) (as := []) (rest := []) (dc := 3) oc_83_12 rfl rfl rfl (st_O ha) rfl rfl rfl rfl (by decide) (R53 ha hy2) ?_
    refine ev_aload_n od_83_15 rfl ?_
    refine ev_gf (v := .ref 4) og_83_16 (st_O ha) (st_v0 ha) ?_
    obtain ⟨y3, hy3, h⟩ := ov_bd h
    try dsimp only at h
    refine ev_cvi (y := 84) (n := 0) (a := 4) (c := 2) (as := []) (rest := [.int y2]) (dc := 3) oc_83_19 rfl rfl rfl oO_4 rfl rfl rfl rfl (by decide) (R84 oP_4 hy3) ?_
    refine ev_iconst (v := (-1 : Int32)) od_83_22 (by decide) ?_
    refine ev_ixor od_83_23 ?_
    refine ev_iand od_83_24 ?_
    refine ev_iload_n od_83_25 rfl ?_
    obtain ⟨y4, hy4, h⟩ := ov_bd h
    try dsimp only at h
    refine ev_csi (y := 23) (n := 2) (as := [.int (y2 &&& (y3 ^^^ (-1 : Int32))), .int x2]) (rest := []) (dc := 1) oc_83_26 rfl rfl rfl rfl rfl (by decide) (R23  hy4) ?_
    refine ev_if_ne (t := 34) od_83_29 (by decide) (fun hc6 => ?_) (fun hc6 => ?_)
    · rw [if_neg hc6] at h
      refine ev_aload_n od_83_34 rfl ?_
      refine ev_gf (v := .ref (a + 2)) og_83_35 (st_O ha) (st_v2 ha) ?_
      refine ev_iload_n od_83_38 rfl ?_
      refine ev_iload_n od_83_39 rfl ?_
      obtain ⟨bq5, h⟩ := ov_ck_ok h
      refine ev_iast od_83_40 (st_A2 ha) (st_i2 ha bq5) ?_
      refine ev_aload_n od_83_41 rfl ?_
      refine ev_dup od_83_42 rfl ?_
      refine ev_gf (v := .int ((ov_up S (a + 2) (x1).toNatClampNeg x2) a 4)) og_83_43 (st_O ha) (st_v4 ha) ?_
      refine ev_iconst (v := (1 : Int32)) od_83_46 (by decide) ?_
      refine ev_iadd od_83_47 ?_
      refine ev_pf op_83_48 (st_O ha) (st_c4 ha) rfl ?_
      refine ev_iconst (v := (1 : Int32)) od_83_51 (by decide) ?_
      cases h
      exact ev_zret od_83_52 rfl (by decide) hP
    · rw [if_pos hc6] at h
      refine ev_iconst (v := (0 : Int32)) od_83_32 (by decide) ?_
      cases h
      exact ev_zret od_83_33 rfl (by decide) hP
theorem R83 {L : Nat} {S : ov_S} {G : ov_L2} {a : Nat} {x1 : Int32} {x2 : Int32} (ha : ov_St a) {out : Int32 × ov_S} (h : f83 a S x1 x2 = some out) : ov_R L 4 83 [.ref a, .int x1, .int x2] S G (some (.int out.1)) out.2 G :=
  ov_Rof (t83 ha h ⟨rfl, rfl, rfl⟩)
-- 85 OE.undo
def f85 (S : ov_S) : Option (Int32 × ov_S) :=
  (f55 S).bind fun y1 => (if y1 = 0 then some ((-3 : Int32), S) else (f86 S).bind fun y2 => (f87 S).bind fun y3 => (f88 S).bind fun y4 => (f89 18 S y2 y3 y4).bind fun y5 => (f92 y5).bind fun y6 => (f55 y6).bind fun y7 => some (y7, y6))
theorem t85 {L : Nat} {S : ov_S} {G : ov_L2}  {P : Option Value → ov_S → ov_L2 → Prop}  {out : Int32 × ov_S} (h : f85 S = some out) (hP : P (some (.int out.1)) out.2 G) : ov_J L 3 85 0 [some (.ref 1)] [] S G P := by
  unfold f85 at h
  refine ev_aload_n od_85_0 rfl ?_
  refine ev_gf (v := .ref 24) og_85_1 oO_1 rfl ?_
  obtain ⟨y1, hy1, h⟩ := ov_bd h
  try dsimp only at h
  refine ev_cvi (y := 55) (n := 0) (a := 24) (c := 4) (as := []) (rest := []) (dc := 1) oc_85_4 rfl rfl rfl oO_24 rfl rfl rfl rfl (by decide) (R55  hy1) ?_
  refine ev_if_ne (t := 13) od_85_7 (by decide) (fun hc8 => ?_) (fun hc8 => ?_)
  · rw [if_neg hc8] at h
    refine ev_aload_n od_85_13 rfl ?_
    refine ev_gf (v := .ref 18) og_85_14 oO_1 rfl ?_
    refine ev_aload_n od_85_17 rfl ?_
    refine ev_gf (v := .ref 24) og_85_18 oO_1 rfl ?_
    obtain ⟨y2, hy2, h⟩ := ov_bd h
    try dsimp only at h
    refine ev_cvi (y := 86) (n := 0) (a := 24) (c := 4) (as := []) (rest := [.ref 18]) (dc := 1) oc_85_21 rfl rfl rfl oO_24 rfl rfl rfl rfl (by decide) (R86  hy2) ?_
    refine ev_aload_n od_85_24 rfl ?_
    refine ev_gf (v := .ref 24) og_85_25 oO_1 rfl ?_
    obtain ⟨y3, hy3, h⟩ := ov_bd h
    try dsimp only at h
    refine ev_cvi (y := 87) (n := 0) (a := 24) (c := 4) (as := []) (rest := [.int y2, .ref 18]) (dc := 1) oc_85_28 rfl rfl rfl oO_24 rfl rfl rfl rfl (by decide) (R87  hy3) ?_
    refine ev_aload_n od_85_31 rfl ?_
    refine ev_gf (v := .ref 24) og_85_32 oO_1 rfl ?_
    obtain ⟨y4, hy4, h⟩ := ov_bd h
    try dsimp only at h
    refine ev_cvi (y := 88) (n := 0) (a := 24) (c := 4) (as := []) (rest := [.int y3, .int y2, .ref 18]) (dc := 1) oc_85_35 rfl rfl rfl oO_24 rfl rfl rfl rfl (by decide) (R88  hy4) ?_
    obtain ⟨y5, hy5, h⟩ := ov_bd h
    try dsimp only at h
    refine ev_cvv (y := 89) (n := 3) (a := 18) (c := 3) (as := [.int y2, .int y3, .int y4]) (rest := []) (dc := 3) oc_85_38 rfl rfl rfl oO_18 rfl rfl rfl rfl (by decide) (R89 oS_18 hy5) ?_
    refine ev_aload_n od_85_41 rfl ?_
    refine ev_gf (v := .ref 24) og_85_42 oO_1 rfl ?_
    obtain ⟨y6, hy6, h⟩ := ov_bd h
    try dsimp only at h
    refine ev_cvv (y := 92) (n := 0) (a := 24) (c := 4) (as := []) (rest := []) (dc := 1) oc_85_45 rfl rfl rfl oO_24 rfl rfl rfl rfl (by decide) (R92  hy6) ?_
    refine ev_aload_n od_85_48 rfl ?_
    refine ev_gf (v := .ref 24) og_85_49 oO_1 rfl ?_
    obtain ⟨y7, hy7, h⟩ := ov_bd h
    try dsimp only at h
    refine ev_cvi (y := 55) (n := 0) (a := 24) (c := 4) (as := []) (rest := []) (dc := 1) oc_85_52 rfl rfl rfl oO_24 rfl rfl rfl rfl (by decide) (R55  hy7) ?_
    cases h
    exact ev_iret od_85_55 rfl hP
  · rw [if_pos hc8] at h
    refine ev_bipush (v := (-3 : Int32)) od_85_10 (by decide) ?_
    cases h
    exact ev_iret od_85_12 rfl hP
theorem R85 {L : Nat} {S : ov_S} {G : ov_L2}   {out : Int32 × ov_S} (h : f85 S = some out) : ov_R L 4 85 [.ref 1] S G (some (.int out.1)) out.2 G :=
  ov_Rof (t85  h ⟨rfl, rfl, rfl⟩)
-- 107 OE$Stage.leastFreeDoor
def b107_7 (a : Nat) (S : ov_S) (x1 : Int32) (x2 : Int32) : Option ((Int32) ⊕ ((Unit) ⊕ (Int32))) :=
  (if (S 4 0) ≤ x2 then some (.inr (.inl ())) else (f59 4 S x2).bind fun y2 => (f23 x1 y2).bind fun y3 => (if y3 = 0 then some (.inl (x2 + (1 : Int32))) else some (.inr (.inr x2))))
theorem bt107_7 {L : Nat} {S : ov_S} {G : ov_L2} {a : Nat} {x1 : Int32} {x2 : Int32} {P : Option Value → ov_S → ov_L2 → Prop} (ha : ov_St a) {out : (Int32) ⊕ ((Unit) ⊕ (Int32))} (h : b107_7 a S x1 x2 = some out) (hk : ov_sm (σ := Int32) (ε := ((Unit) ⊕ (Int32))) (fun s => ov_J L 3 107 7 [some (.ref a), some (.int x1), some (.int s)] [] S G P) (ov_sm (fun e => ov_J L 3 107 41 [none, none, none] [] S G P) (fun t => P (some (.int t)) S G)) out) : ov_J L 3 107 7 [some (.ref a), some (.int x1), some (.int x2)] [] S G P := by
  unfold b107_7 at h
  refine ev_iload_n od_107_7 rfl ?_
  refine ev_aload_n od_107_8 rfl ?_
  refine ev_gf (v := .ref 4) og_107_9 (st_O ha) (st_v0 ha) ?_
  refine ev_gf (v := .int (S 4 0)) og_107_12 oO_4 rfl ?_
  refine ev_icmp_ge (t := 41) od_107_15 (by decide) (fun hc5 => ?_) (fun hc5 => ?_)
  · rw [if_pos hc5] at h
    cases h
    refine ev_fg (lv0 := [none, none, none]) (ov_le_n (ov_le_n (ov_le_n (ov_le_e)))) ?_
    exact hk
  · rw [if_neg hc5] at h
    refine ev_iload_n od_107_18 rfl ?_
    refine ev_aload_n od_107_19 rfl ?_
    refine ev_gf (v := .ref 4) og_107_20 (st_O ha) (st_v0 ha) ?_
    refine ev_iload_n od_107_23 rfl ?_
    obtain ⟨y2, hy2, h⟩ := ov_bd h
    try dsimp only at h
    refine ev_cvi (y := 59) (n := 1) (a := 4) (c := 2) (as := [.int x2]) (rest := [.int x1]) (dc := 2) oc_107_24 rfl rfl rfl oO_4 rfl rfl rfl rfl (by decide) (R59 oP_4 hy2) ?_
    obtain ⟨y3, hy3, h⟩ := ov_bd h
    try dsimp only at h
    refine ev_csi (y := 23) (n := 2) (as := [.int x1, .int y2]) (rest := []) (dc := 1) oc_107_27 rfl rfl rfl rfl rfl (by decide) (R23  hy3) ?_
    refine ev_if_eq (t := 35) od_107_30 (by decide) (fun hc4 => ?_) (fun hc4 => ?_)
    · rw [if_pos hc4] at h
      refine ev_iinc (v := (x2 + (1 : Int32))) (lv1 := [some (.ref a), some (.int x1), some (.int (x2 + (1 : Int32)))]) od_107_35 rfl rfl rfl ?_
      refine ev_goto (t := 7) od_107_38 (by decide) ?_
      cases h
      exact hk
    · rw [if_neg hc4] at h
      refine ev_iload_n od_107_33 rfl ?_
      cases h
      exact ev_iret od_107_34 rfl hk
def f107 (a : Nat) (S : ov_S) : Option (Int32) :=
  (f53 a S).bind fun y1 => ((ov_lp (fun s => b107_7 a S y1 s) 2000 (0 : Int32)).bind fun e6 => match e6 with | .inl e7 => some (-9 : Int32) | .inr t => some t)
theorem t107 {L : Nat} {S : ov_S} {G : ov_L2} {a : Nat} {P : Option Value → ov_S → ov_L2 → Prop} (ha : ov_St a) {out : Int32} (h : f107 a S = some out) (hP : P (some (.int out)) S G) : ov_J L 3 107 0 [some (.ref a), none, none] [] S G P := by
  unfold f107 at h
  refine ev_aload_n od_107_0 rfl ?_
  obtain ⟨y1, hy1, h⟩ := ov_bd h
  try dsimp only at h
  refine ev_cvi (y := 53) (n := 0) (a := a) (c := 3) (as := []) (rest := []) (dc := 3) oc_107_1 rfl rfl rfl (st_O ha) rfl rfl rfl rfl (by decide) (R53 ha hy1) ?_
  refine ev_istore_n (lv1 := [some (.ref a), some (.int y1), none]) od_107_4 rfl rfl ?_
  refine ev_iconst (v := (0 : Int32)) od_107_5 (by decide) ?_
  refine ev_istore_n (lv1 := [some (.ref a), some (.int y1), some (.int (0 : Int32))]) od_107_6 rfl rfl ?_
  obtain ⟨e6, he6, h⟩ := ov_bd h
  try dsimp only at h
  refine ov_lp_S (body := (fun s => b107_7 a S y1 s)) (head := (fun s => ov_J L 3 107 7 [some (.ref a), some (.int y1), some (.int s)] [] S G P)) (exit := (ov_sm (fun e => ov_J L 3 107 41 [none, none, none] [] S G P) (fun t => P (some (.int t)) S G))) (fun s r hb hk => bt107_7 ha hb hk) 2000 (0 : Int32) e6 he6 ?_
  rcases e6 with e7 | t
  · try dsimp only at h
    show ov_J L 3 107 41 [none, none, none] [] S G P
    refine ev_bipush (v := (-9 : Int32)) od_107_41 (by decide) ?_
    cases h
    exact ev_iret od_107_43 rfl hP
  · cases h
    exact hP
theorem R107 {L : Nat} {S : ov_S} {G : ov_L2} {a : Nat} (ha : ov_St a) {out : Int32} (h : f107 a S = some out) : ov_R L 4 107 [.ref a] S G (some (.int out)) S G :=
  ov_Rof (t107 ha h ⟨rfl, rfl, rfl⟩)
-- 110 OE.bars
def f110 (S : ov_S) (x1 : Int32) : Option (Int32) :=
  (f45 4 S x1).bind fun y1 => (if y1 = 0 then some (-1 : Int32) else (f44 4 S x1).bind fun y2 => (f46 4 S x1).bind fun y3 => (f111 18 S y2 y3).bind fun y4 => some y4)
theorem t110 {L : Nat} {S : ov_S} {G : ov_L2} {x1 : Int32} {P : Option Value → ov_S → ov_L2 → Prop}  {out : Int32} (h : f110 S x1 = some out) (hP : P (some (.int out)) S G) : ov_J L 3 110 0 [some (.ref 1), some (.int x1)] [] S G P := by
  unfold f110 at h
  refine ev_aload_n od_110_0 rfl ?_
  refine ev_gf (v := .ref 4) og_110_1 oO_1 rfl ?_
  refine ev_iload_n od_110_4 rfl ?_
  obtain ⟨y1, hy1, h⟩ := ov_bd h
  try dsimp only at h
  refine ev_cvi (y := 45) (n := 1) (a := 4) (c := 2) (as := [.int x1]) (rest := []) (dc := 1) oc_110_5 rfl rfl rfl oO_4 rfl rfl rfl rfl (by decide) (R45 oP_4 hy1) ?_
  refine ev_if_eq (t := 37) od_110_8 (by decide) (fun hc5 => ?_) (fun hc5 => ?_)
  · rw [if_pos hc5] at h
    refine ev_iconst (v := (-1 : Int32)) od_110_37 (by decide) ?_
    cases h
    exact ev_iret od_110_38 rfl hP
  · rw [if_neg hc5] at h
    refine ev_aload_n od_110_11 rfl ?_
    refine ev_gf (v := .ref 18) og_110_12 oO_1 rfl ?_
    refine ev_aload_n od_110_15 rfl ?_
    refine ev_gf (v := .ref 4) og_110_16 oO_1 rfl ?_
    refine ev_iload_n od_110_19 rfl ?_
    obtain ⟨y2, hy2, h⟩ := ov_bd h
    try dsimp only at h
    refine ev_cvi (y := 44) (n := 1) (a := 4) (c := 2) (as := [.int x1]) (rest := [.ref 18]) (dc := 2) oc_110_20 rfl rfl rfl oO_4 rfl rfl rfl rfl (by decide) (R44 oP_4 hy2) ?_
    refine ev_aload_n od_110_23 rfl ?_
    refine ev_gf (v := .ref 4) og_110_24 oO_1 rfl ?_
    refine ev_iload_n od_110_27 rfl ?_
    obtain ⟨y3, hy3, h⟩ := ov_bd h
    try dsimp only at h
    refine ev_cvi (y := 46) (n := 1) (a := 4) (c := 2) (as := [.int x1]) (rest := [.int y2, .ref 18]) (dc := 2) oc_110_28 rfl rfl rfl oO_4 rfl rfl rfl rfl (by decide) (R46 oP_4 hy3) ?_
    obtain ⟨y4, hy4, h⟩ := ov_bd h
    try dsimp only at h
    refine ev_cvi (y := 111) (n := 2) (a := 18) (c := 3) (as := [.int y2, .int y3]) (rest := []) (dc := 3) oc_110_31 rfl rfl rfl oO_18 rfl rfl rfl rfl (by decide) (R111 oS_18 hy4) ?_
    refine ev_goto (t := 38) od_110_34 (by decide) ?_
    cases h
    exact ev_iret od_110_38 rfl hP
theorem R110 {L : Nat} {S : ov_S} {G : ov_L2} {x1 : Int32}  {out : Int32} (h : f110 S x1 = some out) : ov_R L 4 110 [.ref 1, .int x1] S G (some (.int out)) S G :=
  ov_Rof (t110  h ⟨rfl, rfl, rfl⟩)
-- 127 OE.doors
def f127_54_18 (S : ov_S) (x1 : Int32) (x2 : Int32) (x3 : Int32) : Option ((Int32 × Int32) ⊕ (Int32)) :=
  some (.inl (x2, (x3 + (1 : Int32))))
theorem t127_54_18 {L : Nat} {S : ov_S} {G : ov_L2} {x1 : Int32} {x2 : Int32} {x3 : Int32} {P : Option Value → ov_S → ov_L2 → Prop}  {out : (Int32 × Int32) ⊕ (Int32)} (h : f127_54_18 S x1 x2 x3 = some out) (hk : ov_sm (σ := Int32 × Int32) (ε := (Int32)) (fun s => ov_J L 3 127 18 [some (.ref 1), some (.int x1), some (.int s.1), some (.int s.2)] [] S G P) (fun e => ov_J L 3 127 60 [none, none, some (.int e), none] [] S G P) out) : ov_J L 3 127 54 [some (.ref 1), some (.int x1), some (.int x2), some (.int x3)] [] S G P := by
  unfold f127_54_18 at h
  refine ev_iinc (v := (x3 + (1 : Int32))) (lv1 := [some (.ref 1), some (.int x1), some (.int x2), some (.int (x3 + (1 : Int32)))]) od_127_54 rfl rfl rfl ?_
  refine ev_goto (t := 18) od_127_57 (by decide) ?_
  cases h
  exact hk
def b127_18 (S : ov_S) (x1 : Int32) (x2 : Int32) (x3 : Int32) : Option ((Int32 × Int32) ⊕ (Int32)) :=
  (if (S 4 0) ≤ x3 then some (.inr x2) else (f59 4 S x3).bind fun y3 => (f128 S y3 x1).bind fun y4 => (if y4 = 0 then f127_54_18 S x1 x2 x3 else (f27 x2 x3).bind fun y5 => f127_54_18 S x1 y5 x3))
theorem bt127_18 {L : Nat} {S : ov_S} {G : ov_L2} {x1 : Int32} {x2 : Int32} {x3 : Int32} {P : Option Value → ov_S → ov_L2 → Prop}  {out : (Int32 × Int32) ⊕ (Int32)} (h : b127_18 S x1 x2 x3 = some out) (hk : ov_sm (σ := Int32 × Int32) (ε := (Int32)) (fun s => ov_J L 3 127 18 [some (.ref 1), some (.int x1), some (.int s.1), some (.int s.2)] [] S G P) (fun e => ov_J L 3 127 60 [none, none, some (.int e), none] [] S G P) out) : ov_J L 3 127 18 [some (.ref 1), some (.int x1), some (.int x2), some (.int x3)] [] S G P := by
  unfold b127_18 at h
  refine ev_iload_n od_127_18 rfl ?_
  refine ev_aload_n od_127_19 rfl ?_
  refine ev_gf (v := .ref 4) og_127_20 oO_1 rfl ?_
  refine ev_gf (v := .int (S 4 0)) og_127_23 oO_4 rfl ?_
  refine ev_icmp_ge (t := 60) od_127_26 (by decide) (fun hc7 => ?_) (fun hc7 => ?_)
  · rw [if_pos hc7] at h
    cases h
    refine ev_fg (lv0 := [none, none, some (.int x2), none]) (ov_le_n (ov_le_n (ov_le_s (ov_le_n (ov_le_e))))) ?_
    exact hk
  · rw [if_neg hc7] at h
    refine ev_aload_n od_127_29 rfl ?_
    refine ev_gf (v := .ref 28) og_127_30 oO_1 rfl ?_
    refine ev_aload_n od_127_33 rfl ?_
    refine ev_gf (v := .ref 4) og_127_34 oO_1 rfl ?_
    refine ev_iload_n od_127_37 rfl ?_
    obtain ⟨y3, hy3, h⟩ := ov_bd h
    try dsimp only at h
    refine ev_cvi (y := 59) (n := 1) (a := 4) (c := 2) (as := [.int x3]) (rest := [.ref 28]) (dc := 2) oc_127_38 rfl rfl rfl oO_4 rfl rfl rfl rfl (by decide) (R59 oP_4 hy3) ?_
    refine ev_iload_n od_127_41 rfl ?_
    obtain ⟨y4, hy4, h⟩ := ov_bd h
    try dsimp only at h
    refine ev_cvi (y := 128) (n := 2) (a := 28) (c := 5) (as := [.int y3, .int x1]) (rest := []) (dc := 3) oc_127_42 rfl rfl rfl oO_28 rfl rfl rfl rfl (by decide) (R128  hy4) ?_
    refine ev_if_eq (t := 54) od_127_45 (by decide) (fun hc6 => ?_) (fun hc6 => ?_)
    · rw [if_pos hc6] at h
      exact t127_54_18  h hk
    · rw [if_neg hc6] at h
      refine ev_iload_n od_127_48 rfl ?_
      refine ev_iload_n od_127_49 rfl ?_
      obtain ⟨y5, hy5, h⟩ := ov_bd h
      try dsimp only at h
      refine ev_csi (y := 27) (n := 2) (as := [.int x2, .int x3]) (rest := []) (dc := 1) oc_127_50 rfl rfl rfl rfl rfl (by decide) (R27  hy5) ?_
      refine ev_istore_n (lv1 := [some (.ref 1), some (.int x1), some (.int y5), some (.int x3)]) od_127_53 rfl rfl ?_
      exact t127_54_18  h hk
def f127 (S : ov_S) : Option (Int32) :=
  (f43 18 S).bind fun y2 => ((ov_lp (fun s => b127_18 S ((262143 : Int32) &&& (y2 ^^^ (-1 : Int32))) s.1 s.2) 2000 ((0 : Int32), (0 : Int32))).bind fun e8 => some e8)
theorem t127 {L : Nat} {S : ov_S} {G : ov_L2}  {P : Option Value → ov_S → ov_L2 → Prop}  {out : Int32} (h : f127 S = some out) (hP : P (some (.int out)) S G) : ov_J L 3 127 0 [some (.ref 1), none, none, none] [] S G P := by
  unfold f127 at h
  obtain ⟨w1, hw1⟩ := ok_127_0
  refine ev_ldc_w od_127_0 hw1 ?_
  refine ev_aload_n od_127_3 rfl ?_
  refine ev_gf (v := .ref 18) og_127_4 oO_1 rfl ?_
  obtain ⟨y2, hy2, h⟩ := ov_bd h
  try dsimp only at h
  refine ev_cvi (y := 43) (n := 0) (a := 18) (c := 3) (as := []) (rest := [.int (262143 : Int32)]) (dc := 2) oc_127_7 rfl rfl rfl oO_18 rfl rfl rfl rfl (by decide) (R43 oS_18 hy2) ?_
  refine ev_iconst (v := (-1 : Int32)) od_127_10 (by decide) ?_
  refine ev_ixor od_127_11 ?_
  refine ev_iand od_127_12 ?_
  refine ev_istore_n (lv1 := [some (.ref 1), some (.int ((262143 : Int32) &&& (y2 ^^^ (-1 : Int32)))), none, none]) od_127_13 rfl rfl ?_
  refine ev_iconst (v := (0 : Int32)) od_127_14 (by decide) ?_
  refine ev_istore_n (lv1 := [some (.ref 1), some (.int ((262143 : Int32) &&& (y2 ^^^ (-1 : Int32)))), some (.int (0 : Int32)), none]) od_127_15 rfl rfl ?_
  refine ev_iconst (v := (0 : Int32)) od_127_16 (by decide) ?_
  refine ev_istore_n (lv1 := [some (.ref 1), some (.int ((262143 : Int32) &&& (y2 ^^^ (-1 : Int32)))), some (.int (0 : Int32)), some (.int (0 : Int32))]) od_127_17 rfl rfl ?_
  obtain ⟨e8, he8, h⟩ := ov_bd h
  try dsimp only at h
  refine ov_lp_S (body := (fun s => b127_18 S ((262143 : Int32) &&& (y2 ^^^ (-1 : Int32))) s.1 s.2)) (head := (fun s => ov_J L 3 127 18 [some (.ref 1), some (.int ((262143 : Int32) &&& (y2 ^^^ (-1 : Int32)))), some (.int s.1), some (.int s.2)] [] S G P)) (exit := (fun e => ov_J L 3 127 60 [none, none, some (.int e), none] [] S G P)) (fun s r hb hk => bt127_18  hb hk) 2000 ((0 : Int32), (0 : Int32)) e8 he8 ?_
  show ov_J L 3 127 60 [none, none, some (.int e8), none] [] S G P
  refine ev_iload_n od_127_60 rfl ?_
  cases h
  exact ev_iret od_127_61 rfl hP
theorem R127 {L : Nat} {S : ov_S} {G : ov_L2}   {out : Int32} (h : f127 S = some out) : ov_R L 4 127 [.ref 1] S G (some (.int out)) S G :=
  ov_Rof (t127  h ⟨rfl, rfl, rfl⟩)
-- 148 OEModel.readThing
def f148_118 (S : ov_S) : Option (Int32 × ov_S) :=
  some ((0 : Int32), (ov_up S 42 3 ((S 42 3) - (1 : Int32))))
theorem t148_118 {L : Nat} {S : ov_S} {G : ov_L2}  {P : Option Value → ov_S → ov_L2 → Prop}  {out : Int32 × ov_S} (h : f148_118 S = some out) (hP : P (some (.int out.1)) out.2 G) : ov_J L 3 148 118 [some (.ref 42), none] [] S G P := by
  unfold f148_118 at h
  refine ev_aload_n od_148_118 rfl ?_
  refine ev_dup od_148_119 rfl ?_
  refine ev_gf (v := .int (S 42 3)) og_148_120 oO_42 rfl ?_
  refine ev_iconst (v := (1 : Int32)) od_148_123 (by decide) ?_
  refine ev_isub od_148_124 ?_
  refine ev_pf op_148_125 oO_42 rfl rfl ?_
  refine ev_iconst (v := (0 : Int32)) od_148_128 (by decide) ?_
  cases h
  exact ev_zret od_148_129 rfl (by decide) hP
def f148_90 (S : ov_S) (x1 : Int32) : Option (Int32 × ov_S) :=
  (if x1 = (76 : Int32) then (if (6 : Int32) ≤ (S 42 20) then f148_118 S else (if (S 42 17) ≤ (1 : Int32) then f148_118 S else (f156 S).bind fun y2 => ov_ck (ov_b01 y2.1) (some (y2.1, y2.2)))) else f148_118 S)
theorem t148_90 {L : Nat} {S : ov_S} {G : ov_L2} {x1 : Int32} {P : Option Value → ov_S → ov_L2 → Prop}  {out : Int32 × ov_S} (h : f148_90 S x1 = some out) (hP : P (some (.int out.1)) out.2 G) : ov_J L 3 148 90 [some (.ref 42), some (.int x1)] [] S G P := by
  unfold f148_90 at h
  refine ev_iload_n od_148_90 rfl ?_
  refine ev_bipush (v := (76 : Int32)) od_148_91 (by decide) ?_
  refine ev_icmp_ne (t := 118) od_148_93 (by decide) (fun hc6 => ?_) (fun hc6 => ?_)
  · rw [if_neg hc6] at h
    refine ev_fg (lv0 := [some (.ref 42), none]) (ov_le_s (ov_le_n (ov_le_e))) ?_
    exact t148_118  h hP
  · rw [if_pos hc6] at h
    refine ev_aload_n od_148_96 rfl ?_
    refine ev_gf (v := .int (S 42 20)) og_148_97 oO_42 rfl ?_
    refine ev_bipush (v := (6 : Int32)) od_148_100 (by decide) ?_
    refine ev_icmp_ge (t := 118) od_148_102 (by decide) (fun hc5 => ?_) (fun hc5 => ?_)
    · rw [if_pos hc5] at h
      refine ev_fg (lv0 := [some (.ref 42), none]) (ov_le_s (ov_le_n (ov_le_e))) ?_
      exact t148_118  h hP
    · rw [if_neg hc5] at h
      refine ev_aload_n od_148_105 rfl ?_
      refine ev_gf (v := .int (S 42 17)) og_148_106 oO_42 rfl ?_
      refine ev_iconst (v := (1 : Int32)) od_148_109 (by decide) ?_
      refine ev_icmp_le (t := 118) od_148_110 (by decide) (fun hc4 => ?_) (fun hc4 => ?_)
      · rw [if_pos hc4] at h
        refine ev_fg (lv0 := [some (.ref 42), none]) (ov_le_s (ov_le_n (ov_le_e))) ?_
        exact t148_118  h hP
      · rw [if_neg hc4] at h
        refine ev_aload_n od_148_113 rfl ?_
        obtain ⟨y2, hy2, h⟩ := ov_bd h
        try dsimp only at h
        refine ev_cvi (y := 156) (n := 0) (a := 42) (c := 8) (as := []) (rest := []) (dc := 3) oc_148_114 rfl rfl rfl oO_42 rfl rfl rfl rfl (by decide) (R156  hy2) ?_
        obtain ⟨bq3, h⟩ := ov_ck_ok h
        cases h
        exact ev_zret od_148_117 rfl (ov_b01k bq3) hP
def f148_70 (S : ov_S) (x1 : Int32) : Option (Int32 × ov_S) :=
  (if x1 = (80 : Int32) then (if (6 : Int32) ≤ (S 42 17) then f148_90 S x1 else (f154 S).bind fun y7 => ov_ck (ov_b01 y7.1) (some (y7.1, y7.2))) else f148_90 S x1)
theorem t148_70 {L : Nat} {S : ov_S} {G : ov_L2} {x1 : Int32} {P : Option Value → ov_S → ov_L2 → Prop}  {out : Int32 × ov_S} (h : f148_70 S x1 = some out) (hP : P (some (.int out.1)) out.2 G) : ov_J L 3 148 70 [some (.ref 42), some (.int x1)] [] S G P := by
  unfold f148_70 at h
  refine ev_iload_n od_148_70 rfl ?_
  refine ev_bipush (v := (80 : Int32)) od_148_71 (by decide) ?_
  refine ev_icmp_ne (t := 90) od_148_73 (by decide) (fun hc10 => ?_) (fun hc10 => ?_)
  · rw [if_neg hc10] at h
    exact t148_90  h hP
  · rw [if_pos hc10] at h
    refine ev_aload_n od_148_76 rfl ?_
    refine ev_gf (v := .int (S 42 17)) og_148_77 oO_42 rfl ?_
    refine ev_bipush (v := (6 : Int32)) od_148_80 (by decide) ?_
    refine ev_icmp_ge (t := 90) od_148_82 (by decide) (fun hc9 => ?_) (fun hc9 => ?_)
    · rw [if_pos hc9] at h
      exact t148_90  h hP
    · rw [if_neg hc9] at h
      refine ev_aload_n od_148_85 rfl ?_
      obtain ⟨y7, hy7, h⟩ := ov_bd h
      try dsimp only at h
      refine ev_cvi (y := 154) (n := 0) (a := 42) (c := 8) (as := []) (rest := []) (dc := 3) oc_148_86 rfl rfl rfl oO_42 rfl rfl rfl rfl (by decide) (R154  hy7) ?_
      obtain ⟨bq8, h⟩ := ov_ck_ok h
      cases h
      exact ev_zret od_148_89 rfl (ov_b01k bq8) hP
def f148_51 (S : ov_S) (x1 : Int32) : Option (Int32 × ov_S) :=
  (if x1 = (70 : Int32) then (if (4 : Int32) ≤ (S 42 15) then f148_70 S x1 else (f153 S).bind fun y11 => ov_ck (ov_b01 y11.1) (some (y11.1, y11.2))) else f148_70 S x1)
theorem t148_51 {L : Nat} {S : ov_S} {G : ov_L2} {x1 : Int32} {P : Option Value → ov_S → ov_L2 → Prop}  {out : Int32 × ov_S} (h : f148_51 S x1 = some out) (hP : P (some (.int out.1)) out.2 G) : ov_J L 3 148 51 [some (.ref 42), some (.int x1)] [] S G P := by
  unfold f148_51 at h
  refine ev_iload_n od_148_51 rfl ?_
  refine ev_bipush (v := (70 : Int32)) od_148_52 (by decide) ?_
  refine ev_icmp_ne (t := 70) od_148_54 (by decide) (fun hc14 => ?_) (fun hc14 => ?_)
  · rw [if_neg hc14] at h
    exact t148_70  h hP
  · rw [if_pos hc14] at h
    refine ev_aload_n od_148_57 rfl ?_
    refine ev_gf (v := .int (S 42 15)) og_148_58 oO_42 rfl ?_
    refine ev_iconst (v := (4 : Int32)) od_148_61 (by decide) ?_
    refine ev_icmp_ge (t := 70) od_148_62 (by decide) (fun hc13 => ?_) (fun hc13 => ?_)
    · rw [if_pos hc13] at h
      exact t148_70  h hP
    · rw [if_neg hc13] at h
      refine ev_aload_n od_148_65 rfl ?_
      obtain ⟨y11, hy11, h⟩ := ov_bd h
      try dsimp only at h
      refine ev_cvi (y := 153) (n := 0) (a := 42) (c := 8) (as := []) (rest := []) (dc := 3) oc_148_66 rfl rfl rfl oO_42 rfl rfl rfl rfl (by decide) (R153  hy11) ?_
      obtain ⟨bq12, h⟩ := ov_ck_ok h
      cases h
      exact ev_zret od_148_69 rfl (ov_b01k bq12) hP
def f148 (S : ov_S) : Option (Int32 × ov_S) :=
  ov_ck (ov_ibb (S 42 3) 60) ((if (S 43 ((S 42 3)).toNatClampNeg) = (68 : Int32) then (if (3 : Int32) ≤ ((ov_up S 42 3 ((S 42 3) + (1 : Int32))) 42 13) then f148_51 (ov_up S 42 3 ((S 42 3) + (1 : Int32))) (S 43 ((S 42 3)).toNatClampNeg) else (f149 (ov_up S 42 3 ((S 42 3) + (1 : Int32)))).bind fun y15 => (if (y15 >>> ((12 : Int32) &&& 31)) = (63 : Int32) then f148_51 (ov_up S 42 3 ((S 42 3) + (1 : Int32))) (S 43 ((S 42 3)).toNatClampNeg) else (f150 (ov_up S 42 3 ((S 42 3) + (1 : Int32)))).bind fun y16 => ov_ck (ov_b01 y16.1) (some (y16.1, y16.2)))) else f148_51 (ov_up S 42 3 ((S 42 3) + (1 : Int32))) (S 43 ((S 42 3)).toNatClampNeg)))
theorem t148 {L : Nat} {S : ov_S} {G : ov_L2}  {P : Option Value → ov_S → ov_L2 → Prop}  {out : Int32 × ov_S} (h : f148 S = some out) (hP : P (some (.int out.1)) out.2 G) : ov_J L 3 148 0 [some (.ref 42), none] [] S G P := by
  unfold f148 at h
  refine ev_aload_n od_148_0 rfl ?_
  refine ev_gf (v := .ref 43) og_148_1 oO_42 rfl ?_
  refine ev_aload_n od_148_4 rfl ?_
  refine ev_gf (v := .int (S 42 3)) og_148_5 oO_42 rfl ?_
  obtain ⟨bq1, h⟩ := ov_ck_ok h
  refine ev_iald od_148_8 oA_43 (ov_ibk bq1) ?_
  refine ev_istore_n (lv1 := [some (.ref 42), some (.int (S 43 ((S 42 3)).toNatClampNeg))]) od_148_9 rfl rfl ?_
  refine ev_aload_n od_148_10 rfl ?_
  refine ev_dup od_148_11 rfl ?_
  refine ev_gf (v := .int (S 42 3)) og_148_12 oO_42 rfl ?_
  refine ev_iconst (v := (1 : Int32)) od_148_15 (by decide) ?_
  refine ev_iadd od_148_16 ?_
  refine ev_pf op_148_17 oO_42 rfl rfl ?_
  refine ev_iload_n od_148_20 rfl ?_
  refine ev_bipush (v := (68 : Int32)) od_148_21 (by decide) ?_
  refine ev_icmp_ne (t := 51) od_148_23 (by decide) (fun hc20 => ?_) (fun hc20 => ?_)
  · rw [if_neg hc20] at h
    exact t148_51  h hP
  · rw [if_pos hc20] at h
    refine ev_aload_n od_148_26 rfl ?_
    refine ev_gf (v := .int ((ov_up S 42 3 ((S 42 3) + (1 : Int32))) 42 13)) og_148_27 oO_42 rfl ?_
    refine ev_iconst (v := (3 : Int32)) od_148_30 (by decide) ?_
    refine ev_icmp_ge (t := 51) od_148_31 (by decide) (fun hc19 => ?_) (fun hc19 => ?_)
    · rw [if_pos hc19] at h
      exact t148_51  h hP
    · rw [if_neg hc19] at h
      refine ev_aload_n od_148_34 rfl ?_
      obtain ⟨y15, hy15, h⟩ := ov_bd h
      try dsimp only at h
      refine ev_cvi (y := 149) (n := 0) (a := 42) (c := 8) (as := []) (rest := []) (dc := 1) oc_148_35 rfl rfl rfl oO_42 rfl rfl rfl rfl (by decide) (R149  hy15) ?_
      refine ev_bipush (v := (12 : Int32)) od_148_38 (by decide) ?_
      refine ev_ishr od_148_40 ?_
      refine ev_bipush (v := (63 : Int32)) od_148_41 (by decide) ?_
      refine ev_icmp_eq (t := 51) od_148_43 (by decide) (fun hc18 => ?_) (fun hc18 => ?_)
      · rw [if_pos hc18] at h
        exact t148_51  h hP
      · rw [if_neg hc18] at h
        refine ev_aload_n od_148_46 rfl ?_
        obtain ⟨y16, hy16, h⟩ := ov_bd h
        try dsimp only at h
        refine ev_cvi (y := 150) (n := 0) (a := 42) (c := 8) (as := []) (rest := []) (dc := 3) oc_148_47 rfl rfl rfl oO_42 rfl rfl rfl rfl (by decide) (R150  hy16) ?_
        obtain ⟨bq17, h⟩ := ov_ck_ok h
        cases h
        exact ev_zret od_148_50 rfl (ov_b01k bq17) hP
theorem R148 {L : Nat} {S : ov_S} {G : ov_L2}   {out : Int32 × ov_S} (h : f148 S = some out) : ov_R L 4 148 [.ref 42] S G (some (.int out.1)) out.2 G :=
  ov_Rof (t148  h ⟨rfl, rfl, rfl⟩)
