-- 96 OE.bestCell
def f96_102_60 (S : ov_S) (x1 : Int32) (x2 : Int32) (x3 : Int32) (x4 : Int32) (x5 : Int32) (x6 : Int32) (x7 : Int32) (x8 : Int32) : Option ((Int32 × Int32 × Int32 × ov_S) ⊕ (Int32 × Int32 × ov_S)) :=
  some (.inl (x2, x3, (x8 + (1 : Int32)), S))
theorem t96_102_60 {L : Nat} {S : ov_S} {G : ov_L2} {x1 : Int32} {x2 : Int32} {x3 : Int32} {x4 : Int32} {x5 : Int32} {x6 : Int32} {x7 : Int32} {x8 : Int32} {P : Option Value → ov_S → ov_L2 → Prop}  {out : (Int32 × Int32 × Int32 × ov_S) ⊕ (Int32 × Int32 × ov_S)} (h : f96_102_60 S x1 x2 x3 x4 x5 x6 x7 x8 = some out) (hk : ov_sm (σ := Int32 × Int32 × Int32 × ov_S) (ε := (Int32 × Int32 × ov_S)) (fun s => ov_J L 5 96 60 [some (.ref 1), some (.int x1), some (.int s.1), some (.int s.2.1), some (.int x4), some (.int x5), some (.int x6), some (.int x7), some (.int s.2.2.1), none] [] s.2.2.2 G P) (fun e => ov_J L 5 96 108 [some (.ref 1), some (.int x1), some (.int e.1), some (.int e.2.1), some (.int x4), none, some (.int x6), some (.int x7), none, none] [] e.2.2 G P) out) : ov_J L 5 96 102 [some (.ref 1), some (.int x1), some (.int x2), some (.int x3), some (.int x4), some (.int x5), some (.int x6), some (.int x7), some (.int x8), none] [] S G P := by
  unfold f96_102_60 at h
  refine ev_iinc (v := (x8 + (1 : Int32))) (lv1 := [some (.ref 1), some (.int x1), some (.int x2), some (.int x3), some (.int x4), some (.int x5), some (.int x6), some (.int x7), some (.int (x8 + (1 : Int32))), none]) od_96_102 rfl rfl rfl ?_
  refine ev_goto (t := 60) od_96_105 (by decide) ?_
  cases h
  exact hk
def f96_88_60 (S : ov_S) (x1 : Int32) (x2 : Int32) (x3 : Int32) (x4 : Int32) (x5 : Int32) (x6 : Int32) (x7 : Int32) (x8 : Int32) (s0 : Int32) : Option ((Int32 × Int32 × Int32 × ov_S) ⊕ (Int32 × Int32 × ov_S)) :=
  (if s0 ≤ x3 then f96_102_60 S x1 x2 x3 x4 x5 x6 x7 x8 else f96_102_60 S x1 x8 s0 x4 x5 x6 x7 x8)
theorem t96_88_60 {L : Nat} {S : ov_S} {G : ov_L2} {x1 : Int32} {x2 : Int32} {x3 : Int32} {x4 : Int32} {x5 : Int32} {x6 : Int32} {x7 : Int32} {x8 : Int32} {s0 : Int32} {P : Option Value → ov_S → ov_L2 → Prop}  {out : (Int32 × Int32 × Int32 × ov_S) ⊕ (Int32 × Int32 × ov_S)} (h : f96_88_60 S x1 x2 x3 x4 x5 x6 x7 x8 s0 = some out) (hk : ov_sm (σ := Int32 × Int32 × Int32 × ov_S) (ε := (Int32 × Int32 × ov_S)) (fun s => ov_J L 5 96 60 [some (.ref 1), some (.int x1), some (.int s.1), some (.int s.2.1), some (.int x4), some (.int x5), some (.int x6), some (.int x7), some (.int s.2.2.1), none] [] s.2.2.2 G P) (fun e => ov_J L 5 96 108 [some (.ref 1), some (.int x1), some (.int e.1), some (.int e.2.1), some (.int x4), none, some (.int x6), some (.int x7), none, none] [] e.2.2 G P) out) : ov_J L 5 96 88 [some (.ref 1), some (.int x1), some (.int x2), some (.int x3), some (.int x4), some (.int x5), some (.int x6), some (.int x7), some (.int x8), none] [.int s0] S G P := by
  unfold f96_88_60 at h
  refine ev_istore (lv1 := [some (.ref 1), some (.int x1), some (.int x2), some (.int x3), some (.int x4), some (.int x5), some (.int x6), some (.int x7), some (.int x8), some (.int s0)]) od_96_88 rfl rfl ?_
  refine ev_iload od_96_90 rfl ?_
  refine ev_iload_n od_96_92 rfl ?_
  refine ev_icmp_le (t := 102) od_96_93 (by decide) (fun hc6 => ?_) (fun hc6 => ?_)
  · rw [if_pos hc6] at h
    refine ev_fg (lv0 := [some (.ref 1), some (.int x1), some (.int x2), some (.int x3), some (.int x4), some (.int x5), some (.int x6), some (.int x7), some (.int x8), none]) (ov_le_s (ov_le_s (ov_le_s (ov_le_s (ov_le_s (ov_le_s (ov_le_s (ov_le_s (ov_le_s (ov_le_n (ov_le_e))))))))))) ?_
    exact t96_102_60  h hk
  · rw [if_neg hc6] at h
    refine ev_iload od_96_96 rfl ?_
    refine ev_istore_n (lv1 := [some (.ref 1), some (.int x1), some (.int x2), some (.int s0), some (.int x4), some (.int x5), some (.int x6), some (.int x7), some (.int x8), some (.int s0)]) od_96_98 rfl rfl ?_
    refine ev_iload od_96_99 rfl ?_
    refine ev_istore_n (lv1 := [some (.ref 1), some (.int x1), some (.int x8), some (.int s0), some (.int x4), some (.int x5), some (.int x6), some (.int x7), some (.int x8), some (.int s0)]) od_96_101 rfl rfl ?_
    refine ev_fg (lv0 := [some (.ref 1), some (.int x1), some (.int x8), some (.int s0), some (.int x4), some (.int x5), some (.int x6), some (.int x7), some (.int x8), none]) (ov_le_s (ov_le_s (ov_le_s (ov_le_s (ov_le_s (ov_le_s (ov_le_s (ov_le_s (ov_le_s (ov_le_n (ov_le_e))))))))))) ?_
    exact t96_102_60  h hk
def b96_60 (x1 : Int32) (x4 : Int32) (x5 : Int32) (x6 : Int32) (x7 : Int32) (x2 : Int32) (x3 : Int32) (x8 : Int32) (S : ov_S) : Option ((Int32 × Int32 × Int32 × ov_S) ⊕ (Int32 × Int32 × ov_S)) :=
  (if (18 : Int32) ≤ x8 then some (.inr (x2, x3, S)) else (f23 x5 x8).bind fun y5 => (if y5 = 0 then f96_88_60 S x1 x2 x3 x4 x5 x6 x7 x8 (-1 : Int32) else (f98 S x1 x8).bind fun y7 => f96_88_60 y7.2 x1 x2 x3 x4 x5 x6 x7 x8 y7.1))
theorem bt96_60 {L : Nat} {S : ov_S} {G : ov_L2} {x1 : Int32} {x4 : Int32} {x5 : Int32} {x6 : Int32} {x7 : Int32} {x2 : Int32} {x3 : Int32} {x8 : Int32} {P : Option Value → ov_S → ov_L2 → Prop}  {out : (Int32 × Int32 × Int32 × ov_S) ⊕ (Int32 × Int32 × ov_S)} (h : b96_60 x1 x4 x5 x6 x7 x2 x3 x8 S = some out) (hk : ov_sm (σ := Int32 × Int32 × Int32 × ov_S) (ε := (Int32 × Int32 × ov_S)) (fun s => ov_J L 5 96 60 [some (.ref 1), some (.int x1), some (.int s.1), some (.int s.2.1), some (.int x4), some (.int x5), some (.int x6), some (.int x7), some (.int s.2.2.1), none] [] s.2.2.2 G P) (fun e => ov_J L 5 96 108 [some (.ref 1), some (.int x1), some (.int e.1), some (.int e.2.1), some (.int x4), none, some (.int x6), some (.int x7), none, none] [] e.2.2 G P) out) : ov_J L 5 96 60 [some (.ref 1), some (.int x1), some (.int x2), some (.int x3), some (.int x4), some (.int x5), some (.int x6), some (.int x7), some (.int x8), none] [] S G P := by
  unfold b96_60 at h
  refine ev_iload od_96_60 rfl ?_
  refine ev_bipush (v := (18 : Int32)) od_96_62 (by decide) ?_
  refine ev_icmp_ge (t := 108) od_96_64 (by decide) (fun hc9 => ?_) (fun hc9 => ?_)
  · rw [if_pos hc9] at h
    cases h
    refine ev_fg (lv0 := [some (.ref 1), some (.int x1), some (.int x2), some (.int x3), some (.int x4), none, some (.int x6), some (.int x7), none, none]) (ov_le_s (ov_le_s (ov_le_s (ov_le_s (ov_le_s (ov_le_n (ov_le_s (ov_le_s (ov_le_n (ov_le_n (ov_le_e))))))))))) ?_
    exact hk
  · rw [if_neg hc9] at h
    refine ev_iload od_96_67 rfl ?_
    refine ev_iload od_96_69 rfl ?_
    obtain ⟨y5, hy5, h⟩ := ov_bd h
    try dsimp only at h
    refine ev_csi (y := 23) (n := 2) (as := [.int x5, .int x8]) (rest := []) (dc := 1) oc_96_71 rfl rfl rfl rfl rfl (by decide) (R23  hy5) ?_
    refine ev_if_eq (t := 87) od_96_74 (by decide) (fun hc8 => ?_) (fun hc8 => ?_)
    · rw [if_pos hc8] at h
      refine ev_iconst (v := (-1 : Int32)) od_96_87 (by decide) ?_
      exact t96_88_60  h hk
    · rw [if_neg hc8] at h
      refine ev_aload_n od_96_77 rfl ?_
      refine ev_iload_n od_96_78 rfl ?_
      refine ev_iload od_96_79 rfl ?_
      obtain ⟨y7, hy7, h⟩ := ov_bd h
      try dsimp only at h
      refine ev_cvi (y := 98) (n := 2) (a := 1) (c := 0) (as := [.int x1, .int x8]) (rest := []) (dc := 5) oc_96_81 rfl rfl rfl oO_1 rfl rfl rfl rfl (by decide) (R98  hy7) ?_
      refine ev_goto (t := 88) od_96_84 (by decide) ?_
      exact t96_88_60  h hk
def b96_45 (x1 : Int32) (x4 : Int32) (x2 : Int32) (x3 : Int32) (x5 : Int32) (x6 : Int32) (x7 : Int32) (S : ov_S) : Option ((Int32 × Int32 × Int32 × Int32 × Int32 × ov_S) ⊕ (Int32 × ov_S)) :=
  (if (18 : Int32) ≤ x7 then some (.inr (x2, S)) else (if x5 = 0 then some (.inr (x2, S)) else ((ov_lp (fun s => b96_60 x1 x4 x5 x6 x7 s.1 s.2.1 s.2.2.1 s.2.2.2) 2000 (x2, x3, (0 : Int32), S)).bind fun e10 => (f68 x6 x4).bind fun y11 => some (.inl (e10.1, e10.2.1, y11, (x6 ||| y11), (x7 + (1 : Int32)), e10.2.2)))))
theorem bt96_45 {L : Nat} {S : ov_S} {G : ov_L2} {x1 : Int32} {x4 : Int32} {x2 : Int32} {x3 : Int32} {x5 : Int32} {x6 : Int32} {x7 : Int32} {P : Option Value → ov_S → ov_L2 → Prop}  {out : (Int32 × Int32 × Int32 × Int32 × Int32 × ov_S) ⊕ (Int32 × ov_S)} (h : b96_45 x1 x4 x2 x3 x5 x6 x7 S = some out) (hk : ov_sm (σ := Int32 × Int32 × Int32 × Int32 × Int32 × ov_S) (ε := (Int32 × ov_S)) (fun s => ov_J L 5 96 45 [some (.ref 1), some (.int x1), some (.int s.1), some (.int s.2.1), some (.int x4), some (.int s.2.2.1), some (.int s.2.2.2.1), some (.int s.2.2.2.2.1), none, none] [] s.2.2.2.2.2 G P) (fun e => ov_J L 5 96 130 [none, none, some (.int e.1), none, none, none, none, none, none, none] [] e.2 G P) out) : ov_J L 5 96 45 [some (.ref 1), some (.int x1), some (.int x2), some (.int x3), some (.int x4), some (.int x5), some (.int x6), some (.int x7), none, none] [] S G P := by
  unfold b96_45 at h
  refine ev_iload od_96_45 rfl ?_
  refine ev_bipush (v := (18 : Int32)) od_96_47 (by decide) ?_
  refine ev_icmp_ge (t := 130) od_96_49 (by decide) (fun hc13 => ?_) (fun hc13 => ?_)
  · rw [if_pos hc13] at h
    cases h
    refine ev_fg (lv0 := [none, none, some (.int x2), none, none, none, none, none, none, none]) (ov_le_n (ov_le_n (ov_le_s (ov_le_n (ov_le_n (ov_le_n (ov_le_n (ov_le_n (ov_le_n (ov_le_n (ov_le_e))))))))))) ?_
    exact hk
  · rw [if_neg hc13] at h
    refine ev_iload od_96_52 rfl ?_
    refine ev_if_eq (t := 130) od_96_54 (by decide) (fun hc12 => ?_) (fun hc12 => ?_)
    · rw [if_pos hc12] at h
      cases h
      refine ev_fg (lv0 := [none, none, some (.int x2), none, none, none, none, none, none, none]) (ov_le_n (ov_le_n (ov_le_s (ov_le_n (ov_le_n (ov_le_n (ov_le_n (ov_le_n (ov_le_n (ov_le_n (ov_le_e))))))))))) ?_
      exact hk
    · rw [if_neg hc12] at h
      refine ev_iconst (v := (0 : Int32)) od_96_57 (by decide) ?_
      refine ev_istore (lv1 := [some (.ref 1), some (.int x1), some (.int x2), some (.int x3), some (.int x4), some (.int x5), some (.int x6), some (.int x7), some (.int (0 : Int32)), none]) od_96_58 rfl rfl ?_
      obtain ⟨e10, he10, h⟩ := ov_bd h
      try dsimp only at h
      refine ov_lp_S (body := (fun s => b96_60 x1 x4 x5 x6 x7 s.1 s.2.1 s.2.2.1 s.2.2.2)) (head := (fun s => ov_J L 5 96 60 [some (.ref 1), some (.int x1), some (.int s.1), some (.int s.2.1), some (.int x4), some (.int x5), some (.int x6), some (.int x7), some (.int s.2.2.1), none] [] s.2.2.2 G P)) (exit := (fun e => ov_J L 5 96 108 [some (.ref 1), some (.int x1), some (.int e.1), some (.int e.2.1), some (.int x4), none, some (.int x6), some (.int x7), none, none] [] e.2.2 G P)) (fun s r hb hk => bt96_60  hb hk) 2000 (x2, x3, (0 : Int32), S) e10 he10 ?_
      show ov_J L 5 96 108 [some (.ref 1), some (.int x1), some (.int e10.1), some (.int e10.2.1), some (.int x4), none, some (.int x6), some (.int x7), none, none] [] e10.2.2 G P
      refine ev_iload od_96_108 rfl ?_
      refine ev_iload od_96_110 rfl ?_
      obtain ⟨y11, hy11, h⟩ := ov_bd h
      try dsimp only at h
      refine ev_csi (y := 68) (n := 2) (as := [.int x6, .int x4]) (rest := []) (dc := 1) oc_96_112 rfl rfl rfl rfl rfl (by decide) (R68  hy11) ?_
      refine ev_istore (lv1 := [some (.ref 1), some (.int x1), some (.int e10.1), some (.int e10.2.1), some (.int x4), some (.int y11), some (.int x6), some (.int x7), none, none]) od_96_115 rfl rfl ?_
      refine ev_iload od_96_117 rfl ?_
      refine ev_iload od_96_119 rfl ?_
      refine ev_ior od_96_121 ?_
      refine ev_istore (lv1 := [some (.ref 1), some (.int x1), some (.int e10.1), some (.int e10.2.1), some (.int x4), some (.int y11), some (.int (x6 ||| y11)), some (.int x7), none, none]) od_96_122 rfl rfl ?_
      refine ev_iinc (v := (x7 + (1 : Int32))) (lv1 := [some (.ref 1), some (.int x1), some (.int e10.1), some (.int e10.2.1), some (.int x4), some (.int y11), some (.int (x6 ||| y11)), some (.int (x7 + (1 : Int32))), none, none]) od_96_124 rfl rfl rfl ?_
      refine ev_goto (t := 45) od_96_127 (by decide) ?_
      cases h
      exact hk
def f96 (S : ov_S) (x1 : Int32) : Option (Int32 × ov_S) :=
  (f97 21 18 S).bind fun y1 => (f35 18 y1 x1).bind fun y2 => (f66 18 y1 x1).bind fun y3 => (f24 y2).bind fun y4 => ((ov_lp (fun s => b96_45 x1 y3 s.1 s.2.1 s.2.2.1 s.2.2.2.1 s.2.2.2.2.1 s.2.2.2.2.2) 2000 (y2, (-1 : Int32), y4, y4, (0 : Int32), y1)).bind fun e14 => some (e14.1, e14.2))
theorem t96 {L : Nat} {S : ov_S} {G : ov_L2} {x1 : Int32} {P : Option Value → ov_S → ov_L2 → Prop}  {out : Int32 × ov_S} (h : f96 S x1 = some out) (hP : P (some (.int out.1)) out.2 G) : ov_J L 5 96 0 [some (.ref 1), some (.int x1), none, none, none, none, none, none, none, none] [] S G P := by
  unfold f96 at h
  refine ev_aload_n od_96_0 rfl ?_
  refine ev_gf (v := .ref 21) og_96_1 oO_1 rfl ?_
  refine ev_aload_n od_96_4 rfl ?_
  refine ev_gf (v := .ref 18) og_96_5 oO_1 rfl ?_
  obtain ⟨y1, hy1, h⟩ := ov_bd h
  try dsimp only at h
  refine ev_cvv (y := 97) (n := 1) (a := 21) (c := 3) (as := [.ref 18]) (rest := []) (dc := 1) oc_96_8 rfl rfl rfl oO_21 rfl rfl rfl rfl (by decide) (R97 oS_21 oS_18 hy1) ?_
  refine ev_aload_n od_96_11 rfl ?_
  refine ev_gf (v := .ref 18) og_96_12 oO_1 rfl ?_
  refine ev_iload_n od_96_15 rfl ?_
  obtain ⟨y2, hy2, h⟩ := ov_bd h
  try dsimp only at h
  refine ev_cvi (y := 35) (n := 1) (a := 18) (c := 3) (as := [.int x1]) (rest := []) (dc := 2) oc_96_16 rfl rfl rfl oO_18 rfl rfl rfl rfl (by decide) (R35 oS_18 hy2) ?_
  refine ev_istore_n (lv1 := [some (.ref 1), some (.int x1), some (.int y2), none, none, none, none, none, none, none]) od_96_19 rfl rfl ?_
  refine ev_iconst (v := (-1 : Int32)) od_96_20 (by decide) ?_
  refine ev_istore_n (lv1 := [some (.ref 1), some (.int x1), some (.int y2), some (.int (-1 : Int32)), none, none, none, none, none, none]) od_96_21 rfl rfl ?_
  refine ev_aload_n od_96_22 rfl ?_
  refine ev_gf (v := .ref 18) og_96_23 oO_1 rfl ?_
  refine ev_iload_n od_96_26 rfl ?_
  obtain ⟨y3, hy3, h⟩ := ov_bd h
  try dsimp only at h
  refine ev_cvi (y := 66) (n := 1) (a := 18) (c := 3) (as := [.int x1]) (rest := []) (dc := 4) oc_96_27 rfl rfl rfl oO_18 rfl rfl rfl rfl (by decide) (R66 oS_18 hy3) ?_
  refine ev_istore (lv1 := [some (.ref 1), some (.int x1), some (.int y2), some (.int (-1 : Int32)), some (.int y3), none, none, none, none, none]) od_96_30 rfl rfl ?_
  refine ev_iload_n od_96_32 rfl ?_
  obtain ⟨y4, hy4, h⟩ := ov_bd h
  try dsimp only at h
  refine ev_csi (y := 24) (n := 1) (as := [.int y2]) (rest := []) (dc := 1) oc_96_33 rfl rfl rfl rfl rfl (by decide) (R24  hy4) ?_
  refine ev_istore (lv1 := [some (.ref 1), some (.int x1), some (.int y2), some (.int (-1 : Int32)), some (.int y3), some (.int y4), none, none, none, none]) od_96_36 rfl rfl ?_
  refine ev_iload od_96_38 rfl ?_
  refine ev_istore (lv1 := [some (.ref 1), some (.int x1), some (.int y2), some (.int (-1 : Int32)), some (.int y3), some (.int y4), some (.int y4), none, none, none]) od_96_40 rfl rfl ?_
  refine ev_iconst (v := (0 : Int32)) od_96_42 (by decide) ?_
  refine ev_istore (lv1 := [some (.ref 1), some (.int x1), some (.int y2), some (.int (-1 : Int32)), some (.int y3), some (.int y4), some (.int y4), some (.int (0 : Int32)), none, none]) od_96_43 rfl rfl ?_
  obtain ⟨e14, he14, h⟩ := ov_bd h
  try dsimp only at h
  refine ov_lp_S (body := (fun s => b96_45 x1 y3 s.1 s.2.1 s.2.2.1 s.2.2.2.1 s.2.2.2.2.1 s.2.2.2.2.2)) (head := (fun s => ov_J L 5 96 45 [some (.ref 1), some (.int x1), some (.int s.1), some (.int s.2.1), some (.int y3), some (.int s.2.2.1), some (.int s.2.2.2.1), some (.int s.2.2.2.2.1), none, none] [] s.2.2.2.2.2 G P)) (exit := (fun e => ov_J L 5 96 130 [none, none, some (.int e.1), none, none, none, none, none, none, none] [] e.2 G P)) (fun s r hb hk => bt96_45  hb hk) 2000 (y2, (-1 : Int32), y4, y4, (0 : Int32), y1) e14 he14 ?_
  show ov_J L 5 96 130 [none, none, some (.int e14.1), none, none, none, none, none, none, none] [] e14.2 G P
  refine ev_iload_n od_96_130 rfl ?_
  cases h
  exact ev_iret od_96_131 rfl hP
theorem R96 {L : Nat} {S : ov_S} {G : ov_L2} {x1 : Int32}  {out : Int32 × ov_S} (h : f96 S x1 = some out) : ov_R L 6 96 [.ref 1, .int x1] S G (some (.int out.1)) out.2 G :=
  ov_Rof (t96  h ⟨rfl, rfl, rfl⟩)
-- 100 OE.comes
def f100 (S : ov_S) (x1 : Int32) (x2 : Int32) : Option (Int32 × ov_S) :=
  (f29 4 S x1).bind fun y1 => (if y1 = 0 then some ((-1 : Int32), S) else (f58 4 S x2).bind fun y2 => (if y2 = 0 then some ((-1 : Int32), S) else (f34 18 S x1).bind fun y3 => (if y3 = 0 then (f97 21 18 S).bind fun y4 => (f101 21 y4 x1 x2).bind fun y5 => (f35 21 y5.2 x1).bind fun y6 => some (y6, y5.2) else some ((-3 : Int32), S))))
theorem t100 {L : Nat} {S : ov_S} {G : ov_L2} {x1 : Int32} {x2 : Int32} {P : Option Value → ov_S → ov_L2 → Prop}  {out : Int32 × ov_S} (h : f100 S x1 x2 = some out) (hP : P (some (.int out.1)) out.2 G) : ov_J L 5 100 0 [some (.ref 1), some (.int x1), some (.int x2)] [] S G P := by
  unfold f100 at h
  refine ev_aload_n od_100_0 rfl ?_
  refine ev_gf (v := .ref 4) og_100_1 oO_1 rfl ?_
  refine ev_iload_n od_100_4 rfl ?_
  obtain ⟨y1, hy1, h⟩ := ov_bd h
  try dsimp only at h
  refine ev_cvi (y := 29) (n := 1) (a := 4) (c := 2) (as := [.int x1]) (rest := []) (dc := 1) oc_100_5 rfl rfl rfl oO_4 rfl rfl rfl rfl (by decide) (R29 oP_4 hy1) ?_
  refine ev_if_eq (t := 22) od_100_8 (by decide) (fun hc9 => ?_) (fun hc9 => ?_)
  · rw [if_pos hc9] at h
    refine ev_iconst (v := (-1 : Int32)) od_100_22 (by decide) ?_
    cases h
    exact ev_iret od_100_23 rfl hP
  · rw [if_neg hc9] at h
    refine ev_aload_n od_100_11 rfl ?_
    refine ev_gf (v := .ref 4) og_100_12 oO_1 rfl ?_
    refine ev_iload_n od_100_15 rfl ?_
    obtain ⟨y2, hy2, h⟩ := ov_bd h
    try dsimp only at h
    refine ev_cvi (y := 58) (n := 1) (a := 4) (c := 2) (as := [.int x2]) (rest := []) (dc := 1) oc_100_16 rfl rfl rfl oO_4 rfl rfl rfl rfl (by decide) (R58 oP_4 hy2) ?_
    refine ev_if_ne (t := 24) od_100_19 (by decide) (fun hc8 => ?_) (fun hc8 => ?_)
    · rw [if_neg hc8] at h
      refine ev_aload_n od_100_24 rfl ?_
      refine ev_gf (v := .ref 18) og_100_25 oO_1 rfl ?_
      refine ev_iload_n od_100_28 rfl ?_
      obtain ⟨y3, hy3, h⟩ := ov_bd h
      try dsimp only at h
      refine ev_cvi (y := 34) (n := 1) (a := 18) (c := 3) (as := [.int x1]) (rest := []) (dc := 3) oc_100_29 rfl rfl rfl oO_18 rfl rfl rfl rfl (by decide) (R34 oS_18 hy3) ?_
      refine ev_if_eq (t := 38) od_100_32 (by decide) (fun hc7 => ?_) (fun hc7 => ?_)
      · rw [if_pos hc7] at h
        refine ev_aload_n od_100_38 rfl ?_
        refine ev_gf (v := .ref 21) og_100_39 oO_1 rfl ?_
        refine ev_aload_n od_100_42 rfl ?_
        refine ev_gf (v := .ref 18) og_100_43 oO_1 rfl ?_
        obtain ⟨y4, hy4, h⟩ := ov_bd h
        try dsimp only at h
        refine ev_cvv (y := 97) (n := 1) (a := 21) (c := 3) (as := [.ref 18]) (rest := []) (dc := 1) oc_100_46 rfl rfl rfl oO_21 rfl rfl rfl rfl (by decide) (R97 oS_21 oS_18 hy4) ?_
        refine ev_aload_n od_100_49 rfl ?_
        refine ev_gf (v := .ref 21) og_100_50 oO_1 rfl ?_
        refine ev_iload_n od_100_53 rfl ?_
        refine ev_iload_n od_100_54 rfl ?_
        obtain ⟨y5, hy5, h⟩ := ov_bd h
        try dsimp only at h
        refine ev_cvi (y := 101) (n := 2) (a := 21) (c := 3) (as := [.int x1, .int x2]) (rest := []) (dc := 5) oc_100_55 rfl rfl rfl oO_21 rfl rfl rfl rfl (by decide) (R101 oS_21 hy5) ?_
        refine ev_pop od_100_58 rfl ?_
        refine ev_aload_n od_100_59 rfl ?_
        refine ev_gf (v := .ref 21) og_100_60 oO_1 rfl ?_
        refine ev_iload_n od_100_63 rfl ?_
        obtain ⟨y6, hy6, h⟩ := ov_bd h
        try dsimp only at h
        refine ev_cvi (y := 35) (n := 1) (a := 21) (c := 3) (as := [.int x1]) (rest := []) (dc := 2) oc_100_64 rfl rfl rfl oO_21 rfl rfl rfl rfl (by decide) (R35 oS_21 hy6) ?_
        cases h
        exact ev_iret od_100_67 rfl hP
      · rw [if_neg hc7] at h
        refine ev_bipush (v := (-3 : Int32)) od_100_35 (by decide) ?_
        cases h
        exact ev_iret od_100_37 rfl hP
    · rw [if_pos hc8] at h
      refine ev_iconst (v := (-1 : Int32)) od_100_22 (by decide) ?_
      cases h
      exact ev_iret od_100_23 rfl hP
theorem R100 {L : Nat} {S : ov_S} {G : ov_L2} {x1 : Int32} {x2 : Int32}  {out : Int32 × ov_S} (h : f100 S x1 x2 = some out) : ov_R L 6 100 [.ref 1, .int x1, .int x2] S G (some (.int out.1)) out.2 G :=
  ov_Rof (t100  h ⟨rfl, rfl, rfl⟩)
-- 112 OE.leftOut
def f112_85_30 (S : ov_S) (x1 : Int32) (x2 : Int32) (x3 : Int32) (x4 : Int32) (x5 : Int32) : Option ((Int32 × Int32 × Int32) ⊕ (Int32 × Int32)) :=
  some (.inl (x3, x4, (x5 + (1 : Int32))))
theorem t112_85_30 {L : Nat} {S : ov_S} {G : ov_L2} {x1 : Int32} {x2 : Int32} {x3 : Int32} {x4 : Int32} {x5 : Int32} {P : Option Value → ov_S → ov_L2 → Prop}  {out : (Int32 × Int32 × Int32) ⊕ (Int32 × Int32)} (h : f112_85_30 S x1 x2 x3 x4 x5 = some out) (hk : ov_sm (σ := Int32 × Int32 × Int32) (ε := (Int32 × Int32)) (fun s => ov_J L 5 112 30 [some (.ref 1), some (.int x1), some (.int x2), some (.int s.1), some (.int s.2.1), some (.int s.2.2), none] [] S G P) (fun e => ov_J L 5 112 91 [none, some (.int x1), none, some (.int e.1), some (.int e.2), none, none] [] S G P) out) : ov_J L 5 112 85 [some (.ref 1), some (.int x1), some (.int x2), some (.int x3), some (.int x4), some (.int x5), none] [] S G P := by
  unfold f112_85_30 at h
  refine ev_iinc (v := (x5 + (1 : Int32))) (lv1 := [some (.ref 1), some (.int x1), some (.int x2), some (.int x3), some (.int x4), some (.int (x5 + (1 : Int32))), none]) od_112_85 rfl rfl rfl ?_
  refine ev_goto (t := 30) od_112_88 (by decide) ?_
  cases h
  exact hk
def f112_69_30 (S : ov_S) (x1 : Int32) (x2 : Int32) (x3 : Int32) (x4 : Int32) (x5 : Int32) (s0 : Int32) : Option ((Int32 × Int32 × Int32) ⊕ (Int32 × Int32)) :=
  (if s0 ≤ x4 then f112_85_30 S x1 x2 x3 x4 x5 else f112_85_30 S x1 x2 x5 s0 x5)
theorem t112_69_30 {L : Nat} {S : ov_S} {G : ov_L2} {x1 : Int32} {x2 : Int32} {x3 : Int32} {x4 : Int32} {x5 : Int32} {s0 : Int32} {P : Option Value → ov_S → ov_L2 → Prop}  {out : (Int32 × Int32 × Int32) ⊕ (Int32 × Int32)} (h : f112_69_30 S x1 x2 x3 x4 x5 s0 = some out) (hk : ov_sm (σ := Int32 × Int32 × Int32) (ε := (Int32 × Int32)) (fun s => ov_J L 5 112 30 [some (.ref 1), some (.int x1), some (.int x2), some (.int s.1), some (.int s.2.1), some (.int s.2.2), none] [] S G P) (fun e => ov_J L 5 112 91 [none, some (.int x1), none, some (.int e.1), some (.int e.2), none, none] [] S G P) out) : ov_J L 5 112 69 [some (.ref 1), some (.int x1), some (.int x2), some (.int x3), some (.int x4), some (.int x5), none] [.int s0] S G P := by
  unfold f112_69_30 at h
  refine ev_istore (lv1 := [some (.ref 1), some (.int x1), some (.int x2), some (.int x3), some (.int x4), some (.int x5), some (.int s0)]) od_112_69 rfl rfl ?_
  refine ev_iload od_112_71 rfl ?_
  refine ev_iload od_112_73 rfl ?_
  refine ev_icmp_le (t := 85) od_112_75 (by decide) (fun hc3 => ?_) (fun hc3 => ?_)
  · rw [if_pos hc3] at h
    refine ev_fg (lv0 := [some (.ref 1), some (.int x1), some (.int x2), some (.int x3), some (.int x4), some (.int x5), none]) (ov_le_s (ov_le_s (ov_le_s (ov_le_s (ov_le_s (ov_le_s (ov_le_n (ov_le_e)))))))) ?_
    exact t112_85_30  h hk
  · rw [if_neg hc3] at h
    refine ev_iload od_112_78 rfl ?_
    refine ev_istore (lv1 := [some (.ref 1), some (.int x1), some (.int x2), some (.int x3), some (.int s0), some (.int x5), some (.int s0)]) od_112_80 rfl rfl ?_
    refine ev_iload od_112_82 rfl ?_
    refine ev_istore_n (lv1 := [some (.ref 1), some (.int x1), some (.int x2), some (.int x5), some (.int s0), some (.int x5), some (.int s0)]) od_112_84 rfl rfl ?_
    refine ev_fg (lv0 := [some (.ref 1), some (.int x1), some (.int x2), some (.int x5), some (.int s0), some (.int x5), none]) (ov_le_s (ov_le_s (ov_le_s (ov_le_s (ov_le_s (ov_le_s (ov_le_n (ov_le_e)))))))) ?_
    exact t112_85_30  h hk
def b112_30 (S : ov_S) (x1 : Int32) (x2 : Int32) (x3 : Int32) (x4 : Int32) (x5 : Int32) : Option ((Int32 × Int32 × Int32) ⊕ (Int32 × Int32)) :=
  (if (S 4 2) ≤ x5 then some (.inr (x3, x4)) else (f23 x2 x5).bind fun y2 => (if y2 = 0 then f112_69_30 S x1 x2 x3 x4 x5 (-9 : Int32) else (f91 x2 x5).bind fun y4 => (f113 18 S y4).bind fun y5 => f112_69_30 S x1 x2 x3 x4 x5 y5))
theorem bt112_30 {L : Nat} {S : ov_S} {G : ov_L2} {x1 : Int32} {x2 : Int32} {x3 : Int32} {x4 : Int32} {x5 : Int32} {P : Option Value → ov_S → ov_L2 → Prop}  {out : (Int32 × Int32 × Int32) ⊕ (Int32 × Int32)} (h : b112_30 S x1 x2 x3 x4 x5 = some out) (hk : ov_sm (σ := Int32 × Int32 × Int32) (ε := (Int32 × Int32)) (fun s => ov_J L 5 112 30 [some (.ref 1), some (.int x1), some (.int x2), some (.int s.1), some (.int s.2.1), some (.int s.2.2), none] [] S G P) (fun e => ov_J L 5 112 91 [none, some (.int x1), none, some (.int e.1), some (.int e.2), none, none] [] S G P) out) : ov_J L 5 112 30 [some (.ref 1), some (.int x1), some (.int x2), some (.int x3), some (.int x4), some (.int x5), none] [] S G P := by
  unfold b112_30 at h
  refine ev_iload od_112_30 rfl ?_
  refine ev_aload_n od_112_32 rfl ?_
  refine ev_gf (v := .ref 4) og_112_33 oO_1 rfl ?_
  refine ev_gf (v := .int (S 4 2)) og_112_36 oO_4 rfl ?_
  refine ev_icmp_ge (t := 91) od_112_39 (by decide) (fun hc7 => ?_) (fun hc7 => ?_)
  · rw [if_pos hc7] at h
    cases h
    refine ev_fg (lv0 := [none, some (.int x1), none, some (.int x3), some (.int x4), none, none]) (ov_le_n (ov_le_s (ov_le_n (ov_le_s (ov_le_s (ov_le_n (ov_le_n (ov_le_e)))))))) ?_
    exact hk
  · rw [if_neg hc7] at h
    refine ev_iload_n od_112_42 rfl ?_
    refine ev_iload od_112_43 rfl ?_
    obtain ⟨y2, hy2, h⟩ := ov_bd h
    try dsimp only at h
    refine ev_csi (y := 23) (n := 2) (as := [.int x2, .int x5]) (rest := []) (dc := 1) oc_112_45 rfl rfl rfl rfl rfl (by decide) (R23  hy2) ?_
    refine ev_if_eq (t := 67) od_112_48 (by decide) (fun hc6 => ?_) (fun hc6 => ?_)
    · rw [if_pos hc6] at h
      refine ev_bipush (v := (-9 : Int32)) od_112_67 (by decide) ?_
      exact t112_69_30  h hk
    · rw [if_neg hc6] at h
      refine ev_aload_n od_112_51 rfl ?_
      refine ev_gf (v := .ref 18) og_112_52 oO_1 rfl ?_
      refine ev_iload_n od_112_55 rfl ?_
      refine ev_iload od_112_56 rfl ?_
      obtain ⟨y4, hy4, h⟩ := ov_bd h
      try dsimp only at h
      refine ev_csi (y := 91) (n := 2) (as := [.int x2, .int x5]) (rest := [.ref 18]) (dc := 1) oc_112_58 rfl rfl rfl rfl rfl (by decide) (R91  hy4) ?_
      obtain ⟨y5, hy5, h⟩ := ov_bd h
      try dsimp only at h
      refine ev_cvi (y := 113) (n := 1) (a := 18) (c := 3) (as := [.int y4]) (rest := []) (dc := 5) oc_112_61 rfl rfl rfl oO_18 rfl rfl rfl rfl (by decide) (R113 oS_18 hy5) ?_
      refine ev_goto (t := 69) od_112_64 (by decide) ?_
      exact t112_69_30  h hk
def f112 (S : ov_S) (x1 : Int32) : Option (Int32) :=
  (if x1 < 0 then some (-2 : Int32) else (if x1 ≤ (1 : Int32) then (f33 18 S).bind fun y1 => ((ov_lp (fun s => b112_30 S x1 y1 s.1 s.2.1 s.2.2) 2000 ((-9 : Int32), (-9 : Int32), (0 : Int32))).bind fun e8 => (if x1 = 0 then some e8.1 else some e8.2)) else some (-2 : Int32)))
theorem t112 {L : Nat} {S : ov_S} {G : ov_L2} {x1 : Int32} {P : Option Value → ov_S → ov_L2 → Prop}  {out : Int32} (h : f112 S x1 = some out) (hP : P (some (.int out)) S G) : ov_J L 5 112 0 [some (.ref 1), some (.int x1), none, none, none, none, none] [] S G P := by
  unfold f112 at h
  refine ev_iload_n od_112_0 rfl ?_
  refine ev_if_lt (t := 9) od_112_1 (by decide) (fun hc11 => ?_) (fun hc11 => ?_)
  · rw [if_pos hc11] at h
    refine ev_bipush (v := (-2 : Int32)) od_112_9 (by decide) ?_
    cases h
    exact ev_iret od_112_11 rfl hP
  · rw [if_neg hc11] at h
    refine ev_iload_n od_112_4 rfl ?_
    refine ev_iconst (v := (1 : Int32)) od_112_5 (by decide) ?_
    refine ev_icmp_le (t := 12) od_112_6 (by decide) (fun hc10 => ?_) (fun hc10 => ?_)
    · rw [if_pos hc10] at h
      refine ev_aload_n od_112_12 rfl ?_
      refine ev_gf (v := .ref 18) og_112_13 oO_1 rfl ?_
      obtain ⟨y1, hy1, h⟩ := ov_bd h
      try dsimp only at h
      refine ev_cvi (y := 33) (n := 0) (a := 18) (c := 3) (as := []) (rest := []) (dc := 4) oc_112_16 rfl rfl rfl oO_18 rfl rfl rfl rfl (by decide) (R33 oS_18 hy1) ?_
      refine ev_istore_n (lv1 := [some (.ref 1), some (.int x1), some (.int y1), none, none, none, none]) od_112_19 rfl rfl ?_
      refine ev_bipush (v := (-9 : Int32)) od_112_20 (by decide) ?_
      refine ev_istore_n (lv1 := [some (.ref 1), some (.int x1), some (.int y1), some (.int (-9 : Int32)), none, none, none]) od_112_22 rfl rfl ?_
      refine ev_bipush (v := (-9 : Int32)) od_112_23 (by decide) ?_
      refine ev_istore (lv1 := [some (.ref 1), some (.int x1), some (.int y1), some (.int (-9 : Int32)), some (.int (-9 : Int32)), none, none]) od_112_25 rfl rfl ?_
      refine ev_iconst (v := (0 : Int32)) od_112_27 (by decide) ?_
      refine ev_istore (lv1 := [some (.ref 1), some (.int x1), some (.int y1), some (.int (-9 : Int32)), some (.int (-9 : Int32)), some (.int (0 : Int32)), none]) od_112_28 rfl rfl ?_
      obtain ⟨e8, he8, h⟩ := ov_bd h
      try dsimp only at h
      refine ov_lp_S (body := (fun s => b112_30 S x1 y1 s.1 s.2.1 s.2.2)) (head := (fun s => ov_J L 5 112 30 [some (.ref 1), some (.int x1), some (.int y1), some (.int s.1), some (.int s.2.1), some (.int s.2.2), none] [] S G P)) (exit := (fun e => ov_J L 5 112 91 [none, some (.int x1), none, some (.int e.1), some (.int e.2), none, none] [] S G P)) (fun s r hb hk => bt112_30  hb hk) 2000 ((-9 : Int32), (-9 : Int32), (0 : Int32)) e8 he8 ?_
      show ov_J L 5 112 91 [none, some (.int x1), none, some (.int e8.1), some (.int e8.2), none, none] [] S G P
      refine ev_iload_n od_112_91 rfl ?_
      refine ev_if_ne (t := 99) od_112_92 (by decide) (fun hc9 => ?_) (fun hc9 => ?_)
      · rw [if_neg hc9] at h
        refine ev_iload od_112_99 rfl ?_
        cases h
        exact ev_iret od_112_101 rfl hP
      · rw [if_pos hc9] at h
        refine ev_iload_n od_112_95 rfl ?_
        refine ev_goto (t := 101) od_112_96 (by decide) ?_
        cases h
        exact ev_iret od_112_101 rfl hP
    · rw [if_neg hc10] at h
      refine ev_bipush (v := (-2 : Int32)) od_112_9 (by decide) ?_
      cases h
      exact ev_iret od_112_11 rfl hP
theorem R112 {L : Nat} {S : ov_S} {G : ov_L2} {x1 : Int32}  {out : Int32} (h : f112 S x1 = some out) : ov_R L 6 112 [.ref 1, .int x1] S G (some (.int out)) S G :=
  ov_Rof (t112  h ⟨rfl, rfl, rfl⟩)
-- 117 OE$Stage.does
def f117 (a : Nat) (S : ov_S) (x1 : Int32) (x2 : Int32) (x3 : Int32) : Option (Int32 × ov_S) :=
  (if x1 = (1 : Int32) then (f74 a S x2 x3).bind fun y2 => ov_ck (ov_b01 y2.1) (some (y2.1, y2.2)) else if x1 = (2 : Int32) then (f78 a S x2 x3).bind fun y5 => ov_ck (ov_b01 y5.1) (some (y5.1, y5.2)) else if x1 = (3 : Int32) then (if x2 = 0 then (f81 a S x3).bind fun y8 => (if y8.1 = 0 then some ((0 : Int32), y8.2) else some ((1 : Int32), y8.2)) else some ((0 : Int32), S)) else some ((0 : Int32), S))
theorem t117 {L : Nat} {S : ov_S} {G : ov_L2} {a : Nat} {x1 : Int32} {x2 : Int32} {x3 : Int32} {P : Option Value → ov_S → ov_L2 → Prop} (ha : ov_St a) {out : Int32 × ov_S} (h : f117 a S x1 x2 x3 = some out) (hP : P (some (.int out.1)) out.2 G) : ov_J L 5 117 0 [some (.ref a), some (.int x1), some (.int x2), some (.int x3)] [] S G P := by
  unfold f117 at h
  refine ev_iload_n od_117_0 rfl ?_
  by_cases hc1 : x1 = (1 : Int32)
  · rw [if_pos hc1] at h
    refine ev_tsc (off := 27) (t := 28) hc1 od_117_1 (by decide) (by decide) ?_
    refine ev_aload_n od_117_28 rfl ?_
    refine ev_iload_n od_117_29 rfl ?_
    refine ev_iload_n od_117_30 rfl ?_
    obtain ⟨y2, hy2, h⟩ := ov_bd h
    try dsimp only at h
    refine ev_cvi (y := 74) (n := 2) (a := a) (c := 3) (as := [.int x2, .int x3]) (rest := []) (dc := 4) oc_117_31 rfl rfl rfl (st_O ha) rfl rfl rfl rfl (by decide) (R74 ha hy2) ?_
    obtain ⟨bq3, h⟩ := ov_ck_ok h
    cases h
    exact ev_zret od_117_34 rfl (ov_b01k bq3) hP
  rw [if_neg hc1] at h
  by_cases hc4 : x1 = (2 : Int32)
  · rw [if_pos hc4] at h
    refine ev_tsc (off := 34) (t := 35) hc4 od_117_1 (by decide) (by decide) ?_
    refine ev_aload_n od_117_35 rfl ?_
    refine ev_iload_n od_117_36 rfl ?_
    refine ev_iload_n od_117_37 rfl ?_
    obtain ⟨y5, hy5, h⟩ := ov_bd h
    try dsimp only at h
    refine ev_cvi (y := 78) (n := 2) (a := a) (c := 3) (as := [.int x2, .int x3]) (rest := []) (dc := 5) oc_117_38 rfl rfl rfl (st_O ha) rfl rfl rfl rfl (by decide) (R78 ha hy5) ?_
    obtain ⟨bq6, h⟩ := ov_ck_ok h
    cases h
    exact ev_zret od_117_41 rfl (ov_b01k bq6) hP
  rw [if_neg hc4] at h
  by_cases hc7 : x1 = (3 : Int32)
  · rw [if_pos hc7] at h
    refine ev_tsc (off := 41) (t := 42) hc7 od_117_1 (by decide) (by decide) ?_
    refine ev_iload_n od_117_42 rfl ?_
    refine ev_if_ne (t := 58) od_117_43 (by decide) (fun hc10 => ?_) (fun hc10 => ?_)
    · rw [if_neg hc10] at h
      refine ev_iconst (v := (0 : Int32)) od_117_58 (by decide) ?_
      cases h
      exact ev_zret od_117_59 rfl (by decide) hP
    · rw [if_pos hc10] at h
      refine ev_aload_n od_117_46 rfl ?_
      refine ev_iload_n od_117_47 rfl ?_
      obtain ⟨y8, hy8, h⟩ := ov_bd h
      try dsimp only at h
      refine ev_cvi (y := 81) (n := 1) (a := a) (c := 3) (as := [.int x3]) (rest := []) (dc := 5) oc_117_48 rfl rfl rfl (st_O ha) rfl rfl rfl rfl (by decide) (R81 ha hy8) ?_
      refine ev_if_eq (t := 58) od_117_51 (by decide) (fun hc9 => ?_) (fun hc9 => ?_)
      · rw [if_pos hc9] at h
        refine ev_iconst (v := (0 : Int32)) od_117_58 (by decide) ?_
        cases h
        exact ev_zret od_117_59 rfl (by decide) hP
      · rw [if_neg hc9] at h
        refine ev_iconst (v := (1 : Int32)) od_117_54 (by decide) ?_
        refine ev_goto (t := 59) od_117_55 (by decide) ?_
        cases h
        exact ev_zret od_117_59 rfl (by decide) hP
  rw [if_neg hc7] at h
  have ehc1 := ov_ni hc1
  have ehc4 := ov_ni hc4
  have ehc7 := ov_ni hc7
  have hout : (x1).toInt < 1 ∨ 3 < (x1).toInt := by
    rw [show ((1 : Int32)).toInt = 1 from by decide] at ehc1
    rw [show ((2 : Int32)).toInt = 2 from by decide] at ehc4
    rw [show ((3 : Int32)).toInt = 3 from by decide] at ehc7
    omega
  refine ev_tsd (t := 60) hout od_117_1 (by decide) ?_
  refine ev_iconst (v := (0 : Int32)) od_117_60 (by decide) ?_
  cases h
  exact ev_zret od_117_61 rfl (by decide) hP
theorem R117 {L : Nat} {S : ov_S} {G : ov_L2} {a : Nat} {x1 : Int32} {x2 : Int32} {x3 : Int32} (ha : ov_St a) {out : Int32 × ov_S} (h : f117 a S x1 x2 x3 = some out) : ov_R L 6 117 [.ref a, .int x1, .int x2, .int x3] S G (some (.int out.1)) out.2 G :=
  ov_Rof (t117 ha h ⟨rfl, rfl, rfl⟩)
-- 118 OE.share
def f118_126_54 (S : ov_S) (x1 : Int32) (x2 : Int32) (x4 : Int32) (x5 : Int32) (x6 : Int64) (x8 : Int32) : Option ((Int64 × Int32) ⊕ (Int64)) :=
  some (.inl (x6, (x8 + (1 : Int32))))
theorem t118_126_54 {L : Nat} {S : ov_S} {G : ov_L2} {x1 : Int32} {x2 : Int32} {x4 : Int32} {x5 : Int32} {x6 : Int64} {x8 : Int32} {P : Option Value → ov_S → ov_L2 → Prop}  {out : (Int64 × Int32) ⊕ (Int64)} (h : f118_126_54 S x1 x2 x4 x5 x6 x8 = some out) (hk : ov_sm (σ := Int64 × Int32) (ε := (Int64)) (fun s => ov_J L 5 118 54 [some (.ref 1), some (.int x1), some (.int x2), none, some (.int x4), some (.int x5), some (.long s.1), none, some (.int s.2), none, none, none] [] S G P) (fun e => ov_J L 5 118 132 [none, none, some (.int x2), none, none, some (.int x5), some (.long e), none, none, none, none, none] [] S G P) out) : ov_J L 5 118 126 [some (.ref 1), some (.int x1), some (.int x2), none, some (.int x4), some (.int x5), some (.long x6), none, some (.int x8), none, none, none] [] S G P := by
  unfold f118_126_54 at h
  refine ev_iinc (v := (x8 + (1 : Int32))) (lv1 := [some (.ref 1), some (.int x1), some (.int x2), none, some (.int x4), some (.int x5), some (.long x6), none, some (.int (x8 + (1 : Int32))), none, none, none]) od_118_126 rfl rfl rfl ?_
  refine ev_goto (t := 54) od_118_129 (by decide) ?_
  cases h
  exact hk
def b118_54 (S : ov_S) (x1 : Int32) (x2 : Int32) (x4 : Int32) (x5 : Int32) (x6 : Int64) (x8 : Int32) : Option ((Int64 × Int32) ⊕ (Int64)) :=
  (if x4 < x8 then some (.inr x6) else (if (x8 &&& (x4 ^^^ (-1 : Int32))) = 0 then (f69 x8).bind fun y5 => (f122 y5).bind fun y6 => (f122 (x5 - y5)).bind fun y7 => (f27 x8 x1).bind fun y8 => (f113 18 S y8).bind fun y9 => (f113 18 S x8).bind fun y10 => f118_126_54 S x1 x2 x4 x5 (x6 + ((y6 * y7) * ((y9 - y10)).toInt64)) x8 else f118_126_54 S x1 x2 x4 x5 x6 x8))
theorem bt118_54 {L : Nat} {S : ov_S} {G : ov_L2} {x1 : Int32} {x2 : Int32} {x4 : Int32} {x5 : Int32} {x6 : Int64} {x8 : Int32} {P : Option Value → ov_S → ov_L2 → Prop}  {out : (Int64 × Int32) ⊕ (Int64)} (h : b118_54 S x1 x2 x4 x5 x6 x8 = some out) (hk : ov_sm (σ := Int64 × Int32) (ε := (Int64)) (fun s => ov_J L 5 118 54 [some (.ref 1), some (.int x1), some (.int x2), none, some (.int x4), some (.int x5), some (.long s.1), none, some (.int s.2), none, none, none] [] S G P) (fun e => ov_J L 5 118 132 [none, none, some (.int x2), none, none, some (.int x5), some (.long e), none, none, none, none, none] [] S G P) out) : ov_J L 5 118 54 [some (.ref 1), some (.int x1), some (.int x2), none, some (.int x4), some (.int x5), some (.long x6), none, some (.int x8), none, none, none] [] S G P := by
  unfold b118_54 at h
  refine ev_iload od_118_54 rfl ?_
  refine ev_iload od_118_56 rfl ?_
  refine ev_icmp_gt (t := 132) od_118_58 (by decide) (fun hc12 => ?_) (fun hc12 => ?_)
  · rw [if_pos hc12] at h
    cases h
    refine ev_fg (lv0 := [none, none, some (.int x2), none, none, some (.int x5), some (.long x6), none, none, none, none, none]) (ov_le_n (ov_le_n (ov_le_s (ov_le_n (ov_le_n (ov_le_s (ov_le_s (ov_le_n (ov_le_n (ov_le_n (ov_le_n (ov_le_n (ov_le_e))))))))))))) ?_
    exact hk
  · rw [if_neg hc12] at h
    refine ev_iload od_118_61 rfl ?_
    refine ev_iload od_118_63 rfl ?_
    refine ev_iconst (v := (-1 : Int32)) od_118_65 (by decide) ?_
    refine ev_ixor od_118_66 ?_
    refine ev_iand od_118_67 ?_
    refine ev_if_ne (t := 126) od_118_68 (by decide) (fun hc11 => ?_) (fun hc11 => ?_)
    · rw [if_neg hc11] at h
      exact t118_126_54  h hk
    · rw [if_pos hc11] at h
      refine ev_iload od_118_71 rfl ?_
      obtain ⟨y5, hy5, h⟩ := ov_bd h
      try dsimp only at h
      refine ev_csi (y := 69) (n := 1) (as := [.int x8]) (rest := []) (dc := 1) oc_118_73 rfl rfl rfl rfl rfl (by decide) (R69  hy5) ?_
      refine ev_istore (lv1 := [some (.ref 1), some (.int x1), some (.int x2), none, some (.int x4), some (.int x5), some (.long x6), none, some (.int x8), some (.int y5), none, none]) od_118_76 rfl rfl ?_
      refine ev_iload od_118_78 rfl ?_
      obtain ⟨y6, hy6, h⟩ := ov_bd h
      try dsimp only at h
      refine ev_csl (y := 122) (n := 1) (as := [.int y5]) (rest := []) (dc := 1) oc_118_80 rfl rfl rfl rfl rfl (by decide) (R122  hy6) ?_
      refine ev_iload od_118_83 rfl ?_
      refine ev_iload od_118_85 rfl ?_
      refine ev_isub od_118_87 ?_
      obtain ⟨y7, hy7, h⟩ := ov_bd h
      try dsimp only at h
      refine ev_csl (y := 122) (n := 1) (as := [.int (x5 - y5)]) (rest := [.long y6]) (dc := 1) oc_118_88 rfl rfl rfl rfl rfl (by decide) (R122  hy7) ?_
      refine ev_lmul od_118_91 ?_
      refine ev_lstore (lv1 := [some (.ref 1), some (.int x1), some (.int x2), none, some (.int x4), some (.int x5), some (.long x6), none, some (.int x8), some (.int y5), some (.long (y6 * y7)), none]) od_118_92 rfl rfl ?_
      refine ev_lload od_118_94 rfl ?_
      refine ev_lload od_118_96 rfl ?_
      refine ev_aload_n od_118_98 rfl ?_
      refine ev_gf (v := .ref 18) og_118_99 oO_1 rfl ?_
      refine ev_iload od_118_102 rfl ?_
      refine ev_iload_n od_118_104 rfl ?_
      obtain ⟨y8, hy8, h⟩ := ov_bd h
      try dsimp only at h
      refine ev_csi (y := 27) (n := 2) (as := [.int x8, .int x1]) (rest := [.ref 18, .long (y6 * y7), .long x6]) (dc := 1) oc_118_105 rfl rfl rfl rfl rfl (by decide) (R27  hy8) ?_
      obtain ⟨y9, hy9, h⟩ := ov_bd h
      try dsimp only at h
      refine ev_cvi (y := 113) (n := 1) (a := 18) (c := 3) (as := [.int y8]) (rest := [.long (y6 * y7), .long x6]) (dc := 5) oc_118_108 rfl rfl rfl oO_18 rfl rfl rfl rfl (by decide) (R113 oS_18 hy9) ?_
      refine ev_aload_n od_118_111 rfl ?_
      refine ev_gf (v := .ref 18) og_118_112 oO_1 rfl ?_
      refine ev_iload od_118_115 rfl ?_
      obtain ⟨y10, hy10, h⟩ := ov_bd h
      try dsimp only at h
      refine ev_cvi (y := 113) (n := 1) (a := 18) (c := 3) (as := [.int x8]) (rest := [.int y9, .long (y6 * y7), .long x6]) (dc := 5) oc_118_117 rfl rfl rfl oO_18 rfl rfl rfl rfl (by decide) (R113 oS_18 hy10) ?_
      refine ev_isub od_118_120 ?_
      refine ev_i2l od_118_121 ?_
      refine ev_lmul od_118_122 ?_
      refine ev_ladd od_118_123 ?_
      refine ev_lstore (lv1 := [some (.ref 1), some (.int x1), some (.int x2), none, some (.int x4), some (.int x5), some (.long (x6 + ((y6 * y7) * ((y9 - y10)).toInt64))), none, some (.int x8), some (.int y5), some (.long (y6 * y7)), none]) od_118_124 rfl rfl ?_
      refine ev_fg (lv0 := [some (.ref 1), some (.int x1), some (.int x2), none, some (.int x4), some (.int x5), some (.long (x6 + ((y6 * y7) * ((y9 - y10)).toInt64))), none, some (.int x8), none, none, none]) (ov_le_s (ov_le_s (ov_le_s (ov_le_n (ov_le_s (ov_le_s (ov_le_s (ov_le_n (ov_le_s (ov_le_n (ov_le_n (ov_le_n (ov_le_e))))))))))))) ?_
      exact t118_126_54  h hk
def f118 (S : ov_S) (x1 : Int32) (x2 : Int32) : Option (Int32) :=
  (f29 4 S x1).bind fun y1 => (if y1 = 0 then some (-1 : Int32) else (f33 18 S).bind fun y2 => (f91 y2 x1).bind fun y3 => (if y3 = y2 then (f119 (0 : Int64) (1 : Int64) x2).bind fun y16 => some y16 else (f69 y3).bind fun y4 => ((ov_lp (fun s => b118_54 S x1 x2 y3 y4 s.1 s.2) 2000 ((0 : Int64), (0 : Int32))).bind fun e13 => (f122 (y4 + (1 : Int32))).bind fun y14 => (f119 e13 y14 x2).bind fun y15 => some y15)))
theorem t118 {L : Nat} {S : ov_S} {G : ov_L2} {x1 : Int32} {x2 : Int32} {P : Option Value → ov_S → ov_L2 → Prop}  {out : Int32} (h : f118 S x1 x2 = some out) (hP : P (some (.int out)) S G) : ov_J L 5 118 0 [some (.ref 1), some (.int x1), some (.int x2), none, none, none, none, none, none, none, none, none] [] S G P := by
  unfold f118 at h
  refine ev_aload_n od_118_0 rfl ?_
  refine ev_gf (v := .ref 4) og_118_1 oO_1 rfl ?_
  refine ev_iload_n od_118_4 rfl ?_
  obtain ⟨y1, hy1, h⟩ := ov_bd h
  try dsimp only at h
  refine ev_cvi (y := 29) (n := 1) (a := 4) (c := 2) (as := [.int x1]) (rest := []) (dc := 1) oc_118_5 rfl rfl rfl oO_4 rfl rfl rfl rfl (by decide) (R29 oP_4 hy1) ?_
  refine ev_if_ne (t := 13) od_118_8 (by decide) (fun hc18 => ?_) (fun hc18 => ?_)
  · rw [if_neg hc18] at h
    refine ev_aload_n od_118_13 rfl ?_
    refine ev_gf (v := .ref 18) og_118_14 oO_1 rfl ?_
    obtain ⟨y2, hy2, h⟩ := ov_bd h
    try dsimp only at h
    refine ev_cvi (y := 33) (n := 0) (a := 18) (c := 3) (as := []) (rest := []) (dc := 4) oc_118_17 rfl rfl rfl oO_18 rfl rfl rfl rfl (by decide) (R33 oS_18 hy2) ?_
    refine ev_istore_n (lv1 := [some (.ref 1), some (.int x1), some (.int x2), some (.int y2), none, none, none, none, none, none, none, none]) od_118_20 rfl rfl ?_
    refine ev_iload_n od_118_21 rfl ?_
    refine ev_iload_n od_118_22 rfl ?_
    obtain ⟨y3, hy3, h⟩ := ov_bd h
    try dsimp only at h
    refine ev_csi (y := 91) (n := 2) (as := [.int y2, .int x1]) (rest := []) (dc := 1) oc_118_23 rfl rfl rfl rfl rfl (by decide) (R91  hy3) ?_
    refine ev_istore (lv1 := [some (.ref 1), some (.int x1), some (.int x2), some (.int y2), some (.int y3), none, none, none, none, none, none, none]) od_118_26 rfl rfl ?_
    refine ev_iload od_118_28 rfl ?_
    refine ev_iload_n od_118_30 rfl ?_
    refine ev_icmp_ne (t := 41) od_118_31 (by decide) (fun hc17 => ?_) (fun hc17 => ?_)
    · rw [if_neg hc17] at h
      refine ev_iload od_118_41 rfl ?_
      obtain ⟨y4, hy4, h⟩ := ov_bd h
      try dsimp only at h
      refine ev_csi (y := 69) (n := 1) (as := [.int y3]) (rest := []) (dc := 1) oc_118_43 rfl rfl rfl rfl rfl (by decide) (R69  hy4) ?_
      refine ev_istore (lv1 := [some (.ref 1), some (.int x1), some (.int x2), some (.int y2), some (.int y3), some (.int y4), none, none, none, none, none, none]) od_118_46 rfl rfl ?_
      refine ev_lconst (v := (0 : Int64)) od_118_48 (by decide) ?_
      refine ev_lstore (lv1 := [some (.ref 1), some (.int x1), some (.int x2), some (.int y2), some (.int y3), some (.int y4), some (.long (0 : Int64)), none, none, none, none, none]) od_118_49 rfl rfl ?_
      refine ev_iconst (v := (0 : Int32)) od_118_51 (by decide) ?_
      refine ev_istore (lv1 := [some (.ref 1), some (.int x1), some (.int x2), some (.int y2), some (.int y3), some (.int y4), some (.long (0 : Int64)), none, some (.int (0 : Int32)), none, none, none]) od_118_52 rfl rfl ?_
      obtain ⟨e13, he13, h⟩ := ov_bd h
      try dsimp only at h
      refine ev_fg (lv0 := [some (.ref 1), some (.int x1), some (.int x2), none, some (.int y3), some (.int y4), some (.long (0 : Int64)), none, some (.int (0 : Int32)), none, none, none]) (ov_le_s (ov_le_s (ov_le_s (ov_le_n (ov_le_s (ov_le_s (ov_le_s (ov_le_n (ov_le_s (ov_le_n (ov_le_n (ov_le_n (ov_le_e))))))))))))) ?_
      refine ov_lp_S (body := (fun s => b118_54 S x1 x2 y3 y4 s.1 s.2)) (head := (fun s => ov_J L 5 118 54 [some (.ref 1), some (.int x1), some (.int x2), none, some (.int y3), some (.int y4), some (.long s.1), none, some (.int s.2), none, none, none] [] S G P)) (exit := (fun e => ov_J L 5 118 132 [none, none, some (.int x2), none, none, some (.int y4), some (.long e), none, none, none, none, none] [] S G P)) (fun s r hb hk => bt118_54  hb hk) 2000 ((0 : Int64), (0 : Int32)) e13 he13 ?_
      show ov_J L 5 118 132 [none, none, some (.int x2), none, none, some (.int y4), some (.long e13), none, none, none, none, none] [] S G P
      refine ev_lload od_118_132 rfl ?_
      refine ev_iload od_118_134 rfl ?_
      refine ev_iconst (v := (1 : Int32)) od_118_136 (by decide) ?_
      refine ev_iadd od_118_137 ?_
      obtain ⟨y14, hy14, h⟩ := ov_bd h
      try dsimp only at h
      refine ev_csl (y := 122) (n := 1) (as := [.int (y4 + (1 : Int32))]) (rest := [.long e13]) (dc := 1) oc_118_138 rfl rfl rfl rfl rfl (by decide) (R122  hy14) ?_
      refine ev_iload_n od_118_141 rfl ?_
      obtain ⟨y15, hy15, h⟩ := ov_bd h
      try dsimp only at h
      refine ev_csi (y := 119) (n := 3) (as := [.long e13, .long y14, .int x2]) (rest := []) (dc := 2) oc_118_142 rfl rfl rfl rfl rfl (by decide) (R119  hy15) ?_
      cases h
      exact ev_iret od_118_145 rfl hP
    · rw [if_pos hc17] at h
      refine ev_lconst (v := (0 : Int64)) od_118_34 (by decide) ?_
      refine ev_lconst (v := (1 : Int64)) od_118_35 (by decide) ?_
      refine ev_iload_n od_118_36 rfl ?_
      obtain ⟨y16, hy16, h⟩ := ov_bd h
      try dsimp only at h
      refine ev_csi (y := 119) (n := 3) (as := [.long (0 : Int64), .long (1 : Int64), .int x2]) (rest := []) (dc := 2) oc_118_37 rfl rfl rfl rfl rfl (by decide) (R119  hy16) ?_
      cases h
      exact ev_iret od_118_40 rfl hP
  · rw [if_pos hc18] at h
    refine ev_iconst (v := (-1 : Int32)) od_118_11 (by decide) ?_
    cases h
    exact ev_iret od_118_12 rfl hP
theorem R118 {L : Nat} {S : ov_S} {G : ov_L2} {x1 : Int32} {x2 : Int32}  {out : Int32} (h : f118 S x1 x2 = some out) : ov_R L 6 118 [.ref 1, .int x1, .int x2] S G (some (.int out)) S G :=
  ov_Rof (t118  h ⟨rfl, rfl, rfl⟩)
-- 131 OE$Rests.perform
def f131 (S : ov_S) (x1 : Int32) (x2 : Int32) (x3 : Int32) (x4 : Int32) : Option (ov_S) :=
  (f97 21 18 S).bind fun y1 => (f101 21 y1 x1 x3).bind fun y2 => (f101 21 y2.2 x2 x4).bind fun y3 => (f36 21 y3.2).bind fun y4 => (f23 y4 x1).bind fun y5 => (f132 y2.1 y5).bind fun y6 => ov_ck (ov_ibb (((3 : Int32) * x3) + x4) 9) ((f23 y4 x2).bind fun y8 => (f132 y3.1 y8).bind fun y9 => ov_ck (ov_ibb (((3 : Int32) * x3) + x4) 9) (some (ov_up (ov_up y3.2 33 ((((3 : Int32) * x3) + x4)).toNatClampNeg y6) 34 ((((3 : Int32) * x3) + x4)).toNatClampNeg y9)))
theorem t131 {L : Nat} {S : ov_S} {G : ov_L2} {x1 : Int32} {x2 : Int32} {x3 : Int32} {x4 : Int32} {P : Option Value → ov_S → ov_L2 → Prop}  {out : ov_S} (h : f131 S x1 x2 x3 x4 = some out) (hP : P none out G) : ov_J L 5 131 0 [some (.ref 32), some (.int x1), some (.int x2), some (.int x3), some (.int x4), none, none, none, none] [] S G P := by
  unfold f131 at h
  refine ev_aload_n od_131_0 rfl ?_
  refine ev_gf (v := .ref 21) og_131_1 oO_32 rfl ?_
  refine ev_aload_n od_131_4 rfl ?_
  refine ev_gf (v := .ref 18) og_131_5 oO_32 rfl ?_
  obtain ⟨y1, hy1, h⟩ := ov_bd h
  try dsimp only at h
  refine ev_cvv (y := 97) (n := 1) (a := 21) (c := 3) (as := [.ref 18]) (rest := []) (dc := 1) oc_131_8 rfl rfl rfl oO_21 rfl rfl rfl rfl (by decide) (R97 oS_21 oS_18 hy1) ?_
  refine ev_aload_n od_131_11 rfl ?_
  refine ev_gf (v := .ref 21) og_131_12 oO_32 rfl ?_
  refine ev_iload_n od_131_15 rfl ?_
  refine ev_iload_n od_131_16 rfl ?_
  obtain ⟨y2, hy2, h⟩ := ov_bd h
  try dsimp only at h
  refine ev_cvi (y := 101) (n := 2) (a := 21) (c := 3) (as := [.int x1, .int x3]) (rest := []) (dc := 5) oc_131_17 rfl rfl rfl oO_21 rfl rfl rfl rfl (by decide) (R101 oS_21 hy2) ?_
  refine ev_istore (lv1 := [some (.ref 32), some (.int x1), some (.int x2), some (.int x3), some (.int x4), some (.int y2.1), none, none, none]) od_131_20 rfl rfl ?_
  refine ev_aload_n od_131_22 rfl ?_
  refine ev_gf (v := .ref 21) og_131_23 oO_32 rfl ?_
  refine ev_iload_n od_131_26 rfl ?_
  refine ev_iload od_131_27 rfl ?_
  obtain ⟨y3, hy3, h⟩ := ov_bd h
  try dsimp only at h
  refine ev_cvi (y := 101) (n := 2) (a := 21) (c := 3) (as := [.int x2, .int x4]) (rest := []) (dc := 5) oc_131_29 rfl rfl rfl oO_21 rfl rfl rfl rfl (by decide) (R101 oS_21 hy3) ?_
  refine ev_istore (lv1 := [some (.ref 32), some (.int x1), some (.int x2), some (.int x3), some (.int x4), some (.int y2.1), some (.int y3.1), none, none]) od_131_32 rfl rfl ?_
  refine ev_aload_n od_131_34 rfl ?_
  refine ev_gf (v := .ref 21) og_131_35 oO_32 rfl ?_
  obtain ⟨y4, hy4, h⟩ := ov_bd h
  try dsimp only at h
  refine ev_cvi (y := 36) (n := 0) (a := 21) (c := 3) (as := []) (rest := []) (dc := 5) oc_131_38 rfl rfl rfl oO_21 rfl rfl rfl rfl (by decide) (R36 oS_21 hy4) ?_
  refine ev_istore (lv1 := [some (.ref 32), some (.int x1), some (.int x2), some (.int x3), some (.int x4), some (.int y2.1), some (.int y3.1), some (.int y4), none]) od_131_41 rfl rfl ?_
  refine ev_iconst (v := (3 : Int32)) od_131_43 (by decide) ?_
  refine ev_iload_n od_131_44 rfl ?_
  refine ev_imul od_131_45 ?_
  refine ev_iload od_131_46 rfl ?_
  refine ev_iadd od_131_48 ?_
  refine ev_istore (lv1 := [some (.ref 32), some (.int x1), some (.int x2), some (.int x3), some (.int x4), some (.int y2.1), some (.int y3.1), some (.int y4), some (.int (((3 : Int32) * x3) + x4))]) od_131_49 rfl rfl ?_
  refine ev_aload_n od_131_51 rfl ?_
  refine ev_gf (v := .ref 33) og_131_52 oO_32 rfl ?_
  refine ev_iload od_131_55 rfl ?_
  refine ev_iload od_131_57 rfl ?_
  refine ev_iload od_131_59 rfl ?_
  refine ev_iload_n od_131_61 rfl ?_
  obtain ⟨y5, hy5, h⟩ := ov_bd h
  try dsimp only at h
  refine ev_csi (y := 23) (n := 2) (as := [.int y4, .int x1]) (rest := [.int y2.1, .int (((3 : Int32) * x3) + x4), .ref 33]) (dc := 1) oc_131_62 rfl rfl rfl rfl rfl (by decide) (R23  hy5) ?_
  obtain ⟨y6, hy6, h⟩ := ov_bd h
  try dsimp only at h
  refine ev_csi (y := 132) (n := 2) (as := [.int y2.1, .int y5]) (rest := [.int (((3 : Int32) * x3) + x4), .ref 33]) (dc := 1) oc_131_65 rfl rfl rfl rfl rfl (by decide) (R132  hy6) ?_
  obtain ⟨bq7, h⟩ := ov_ck_ok h
  refine ev_iast od_131_68 oA_33 (ov_ibk bq7) ?_
  refine ev_aload_n od_131_69 rfl ?_
  refine ev_gf (v := .ref 34) og_131_70 oO_32 rfl ?_
  refine ev_iload od_131_73 rfl ?_
  refine ev_iload od_131_75 rfl ?_
  refine ev_iload od_131_77 rfl ?_
  refine ev_iload_n od_131_79 rfl ?_
  obtain ⟨y8, hy8, h⟩ := ov_bd h
  try dsimp only at h
  refine ev_csi (y := 23) (n := 2) (as := [.int y4, .int x2]) (rest := [.int y3.1, .int (((3 : Int32) * x3) + x4), .ref 34]) (dc := 1) oc_131_80 rfl rfl rfl rfl rfl (by decide) (R23  hy8) ?_
  obtain ⟨y9, hy9, h⟩ := ov_bd h
  try dsimp only at h
  refine ev_csi (y := 132) (n := 2) (as := [.int y3.1, .int y8]) (rest := [.int (((3 : Int32) * x3) + x4), .ref 34]) (dc := 1) oc_131_83 rfl rfl rfl rfl rfl (by decide) (R132  hy9) ?_
  obtain ⟨bq10, h⟩ := ov_ck_ok h
  refine ev_iast od_131_86 oA_34 (ov_ibk bq10) ?_
  cases h
  exact ev_vret od_131_87 rfl hP
theorem R131 {L : Nat} {S : ov_S} {G : ov_L2} {x1 : Int32} {x2 : Int32} {x3 : Int32} {x4 : Int32}  {out : ov_S} (h : f131 S x1 x2 x3 x4 = some out) : ov_R L 6 131 [.ref 32, .int x1, .int x2, .int x3, .int x4] S G none out G :=
  ov_Rof (t131  h ⟨rfl, rfl, rfl⟩)
-- 139 OE.evenings
def f139_112_29 (S : ov_S) (G : ov_L2) (x1 : Int32) (x2 : Int32) (x3 : Int32) : Option ((Int32 × Int32 × ov_S × ov_L2) ⊕ (Int32 × ov_S × ov_L2)) :=
  (f36 21 S).bind fun y6 => (f69 y6).bind fun y7 => some (.inl ((x2 + y7), (x3 + (1 : Int32)), S, G))
theorem t139_112_29 {L : Nat} {S : ov_S} {G : ov_L2} {x1 : Int32} {x2 : Int32} {x3 : Int32} {P : Option Value → ov_S → ov_L2 → Prop}  {out : (Int32 × Int32 × ov_S × ov_L2) ⊕ (Int32 × ov_S × ov_L2)} (h : f139_112_29 S G x1 x2 x3 = some out) (hk : ov_sm (σ := Int32 × Int32 × ov_S × ov_L2) (ε := (Int32 × ov_S × ov_L2)) (fun s => ov_J L 5 139 29 [some (.ref 1), some (.int x1), some (.int s.1), some (.int s.2.1), none] [] s.2.2.1 s.2.2.2 P) (fun e => ov_J L 5 139 131 [none, none, some (.int e.1), none, none] [] e.2.1 e.2.2 P) out) : ov_J L 5 139 112 [some (.ref 1), some (.int x1), some (.int x2), some (.int x3), none] [] S G P := by
  unfold f139_112_29 at h
  refine ev_iload_n od_139_112 rfl ?_
  refine ev_aload_n od_139_113 rfl ?_
  refine ev_gf (v := .ref 21) og_139_114 oO_1 rfl ?_
  obtain ⟨y6, hy6, h⟩ := ov_bd h
  try dsimp only at h
  refine ev_cvi (y := 36) (n := 0) (a := 21) (c := 3) (as := []) (rest := [.int x2]) (dc := 5) oc_139_117 rfl rfl rfl oO_21 rfl rfl rfl rfl (by decide) (R36 oS_21 hy6) ?_
  obtain ⟨y7, hy7, h⟩ := ov_bd h
  try dsimp only at h
  refine ev_csi (y := 69) (n := 1) (as := [.int y6]) (rest := [.int x2]) (dc := 1) oc_139_120 rfl rfl rfl rfl rfl (by decide) (R69  hy7) ?_
  refine ev_iadd od_139_123 ?_
  refine ev_istore_n (lv1 := [some (.ref 1), some (.int x1), some (.int (x2 + y7)), some (.int x3), none]) od_139_124 rfl rfl ?_
  refine ev_iinc (v := (x3 + (1 : Int32))) (lv1 := [some (.ref 1), some (.int x1), some (.int (x2 + y7)), some (.int (x3 + (1 : Int32))), none]) od_139_125 rfl rfl rfl ?_
  refine ev_goto (t := 29) od_139_128 (by decide) ?_
  cases h
  exact hk
def b139_29 (x1 : Int32) (x2 : Int32) (x3 : Int32) (S : ov_S) (G : ov_L2) : Option ((Int32 × Int32 × ov_S × ov_L2) ⊕ (Int32 × ov_S × ov_L2)) :=
  (if x1 ≤ x3 then some (.inr (x2, S, G)) else (if (24 : Int32) ≤ (((((((ov_ug G 1 (((G 1) * (6364136223846793005 : Int64)) + (1442695040888963407 : Int64))) 1)).toUInt64 >>> (((33 : Int32)).toInt64.toUInt64 &&& Int64.toUInt64 63)).toInt64) - (((((ov_ug G 1 (((G 1) * (6364136223846793005 : Int64)) + (1442695040888963407 : Int64))) 1)).toUInt64 >>> (((33 : Int32)).toInt64.toUInt64 &&& Int64.toUInt64 63)).toInt64) / (42 : Int64) * (42 : Int64))).toInt32 then (f74 21 S (((((((((ov_ug G 1 (((G 1) * (6364136223846793005 : Int64)) + (1442695040888963407 : Int64))) 1)).toUInt64 >>> (((33 : Int32)).toInt64.toUInt64 &&& Int64.toUInt64 63)).toInt64) - (((((ov_ug G 1 (((G 1) * (6364136223846793005 : Int64)) + (1442695040888963407 : Int64))) 1)).toUInt64 >>> (((33 : Int32)).toInt64.toUInt64 &&& Int64.toUInt64 63)).toInt64) / (42 : Int64) * (42 : Int64))).toInt32 - (24 : Int32)) / (3 : Int32)) (((((((((ov_ug G 1 (((G 1) * (6364136223846793005 : Int64)) + (1442695040888963407 : Int64))) 1)).toUInt64 >>> (((33 : Int32)).toInt64.toUInt64 &&& Int64.toUInt64 63)).toInt64) - (((((ov_ug G 1 (((G 1) * (6364136223846793005 : Int64)) + (1442695040888963407 : Int64))) 1)).toUInt64 >>> (((33 : Int32)).toInt64.toUInt64 &&& Int64.toUInt64 63)).toInt64) / (42 : Int64) * (42 : Int64))).toInt32 - (24 : Int32)) - ((((((((ov_ug G 1 (((G 1) * (6364136223846793005 : Int64)) + (1442695040888963407 : Int64))) 1)).toUInt64 >>> (((33 : Int32)).toInt64.toUInt64 &&& Int64.toUInt64 63)).toInt64) - (((((ov_ug G 1 (((G 1) * (6364136223846793005 : Int64)) + (1442695040888963407 : Int64))) 1)).toUInt64 >>> (((33 : Int32)).toInt64.toUInt64 &&& Int64.toUInt64 63)).toInt64) / (42 : Int64) * (42 : Int64))).toInt32 - (24 : Int32)) / (3 : Int32) * (3 : Int32))).bind fun y5 => f139_112_29 y5.2 (ov_ug G 1 (((G 1) * (6364136223846793005 : Int64)) + (1442695040888963407 : Int64))) x1 x2 x3 else (f78 21 S ((((((((ov_ug G 1 (((G 1) * (6364136223846793005 : Int64)) + (1442695040888963407 : Int64))) 1)).toUInt64 >>> (((33 : Int32)).toInt64.toUInt64 &&& Int64.toUInt64 63)).toInt64) - (((((ov_ug G 1 (((G 1) * (6364136223846793005 : Int64)) + (1442695040888963407 : Int64))) 1)).toUInt64 >>> (((33 : Int32)).toInt64.toUInt64 &&& Int64.toUInt64 63)).toInt64) / (42 : Int64) * (42 : Int64))).toInt32 / (4 : Int32)) ((((((((ov_ug G 1 (((G 1) * (6364136223846793005 : Int64)) + (1442695040888963407 : Int64))) 1)).toUInt64 >>> (((33 : Int32)).toInt64.toUInt64 &&& Int64.toUInt64 63)).toInt64) - (((((ov_ug G 1 (((G 1) * (6364136223846793005 : Int64)) + (1442695040888963407 : Int64))) 1)).toUInt64 >>> (((33 : Int32)).toInt64.toUInt64 &&& Int64.toUInt64 63)).toInt64) / (42 : Int64) * (42 : Int64))).toInt32 - (((((((ov_ug G 1 (((G 1) * (6364136223846793005 : Int64)) + (1442695040888963407 : Int64))) 1)).toUInt64 >>> (((33 : Int32)).toInt64.toUInt64 &&& Int64.toUInt64 63)).toInt64) - (((((ov_ug G 1 (((G 1) * (6364136223846793005 : Int64)) + (1442695040888963407 : Int64))) 1)).toUInt64 >>> (((33 : Int32)).toInt64.toUInt64 &&& Int64.toUInt64 63)).toInt64) / (42 : Int64) * (42 : Int64))).toInt32 / (4 : Int32) * (4 : Int32))).bind fun y8 => f139_112_29 y8.2 (ov_ug G 1 (((G 1) * (6364136223846793005 : Int64)) + (1442695040888963407 : Int64))) x1 x2 x3))
theorem bt139_29 {L : Nat} {S : ov_S} {G : ov_L2} {x1 : Int32} {x2 : Int32} {x3 : Int32} {P : Option Value → ov_S → ov_L2 → Prop}  {out : (Int32 × Int32 × ov_S × ov_L2) ⊕ (Int32 × ov_S × ov_L2)} (h : b139_29 x1 x2 x3 S G = some out) (hk : ov_sm (σ := Int32 × Int32 × ov_S × ov_L2) (ε := (Int32 × ov_S × ov_L2)) (fun s => ov_J L 5 139 29 [some (.ref 1), some (.int x1), some (.int s.1), some (.int s.2.1), none] [] s.2.2.1 s.2.2.2 P) (fun e => ov_J L 5 139 131 [none, none, some (.int e.1), none, none] [] e.2.1 e.2.2 P) out) : ov_J L 5 139 29 [some (.ref 1), some (.int x1), some (.int x2), some (.int x3), none] [] S G P := by
  unfold b139_29 at h
  refine ev_iload_n od_139_29 rfl ?_
  refine ev_iload_n od_139_30 rfl ?_
  refine ev_icmp_ge (t := 131) od_139_31 (by decide) (fun hc10 => ?_) (fun hc10 => ?_)
  · rw [if_pos hc10] at h
    cases h
    refine ev_fg (lv0 := [none, none, some (.int x2), none, none]) (ov_le_n (ov_le_n (ov_le_s (ov_le_n (ov_le_n (ov_le_e)))))) ?_
    exact hk
  · rw [if_neg hc10] at h
    refine ev_aload_n od_139_34 rfl ?_
    refine ev_aload_n od_139_35 rfl ?_
    refine ev_gf (v := .long (G 1)) og_139_36 oO_1 rfl ?_
    obtain ⟨w2, hw2⟩ := ok_139_39
    refine ev_ldc2_w od_139_39 hw2 ?_
    refine ev_lmul od_139_42 ?_
    obtain ⟨w3, hw3⟩ := ok_139_43
    refine ev_ldc2_w od_139_43 hw3 ?_
    refine ev_ladd od_139_46 ?_
    refine ev_pfl op_139_47 oO_1 rfl oG_1 rfl ?_
    refine ev_aload_n od_139_50 rfl ?_
    refine ev_gf (v := .long ((ov_ug G 1 (((G 1) * (6364136223846793005 : Int64)) + (1442695040888963407 : Int64))) 1)) og_139_51 oO_1 rfl ?_
    refine ev_bipush (v := (33 : Int32)) od_139_54 (by decide) ?_
    refine ev_lushr od_139_56 ?_
    obtain ⟨w4, hw4⟩ := ok_139_57
    refine ev_ldc2_w od_139_57 hw4 ?_
    refine ev_lrem od_139_60 (by decide) ?_
    refine ev_l2i od_139_61 ?_
    refine ev_istore (lv1 := [some (.ref 1), some (.int x1), some (.int x2), some (.int x3), some (.int (((((((ov_ug G 1 (((G 1) * (6364136223846793005 : Int64)) + (1442695040888963407 : Int64))) 1)).toUInt64 >>> (((33 : Int32)).toInt64.toUInt64 &&& Int64.toUInt64 63)).toInt64) - (((((ov_ug G 1 (((G 1) * (6364136223846793005 : Int64)) + (1442695040888963407 : Int64))) 1)).toUInt64 >>> (((33 : Int32)).toInt64.toUInt64 &&& Int64.toUInt64 63)).toInt64) / (42 : Int64) * (42 : Int64))).toInt32)]) od_139_62 rfl rfl ?_
    refine ev_iload od_139_64 rfl ?_
    refine ev_bipush (v := (24 : Int32)) od_139_66 (by decide) ?_
    refine ev_icmp_ge (t := 90) od_139_68 (by decide) (fun hc9 => ?_) (fun hc9 => ?_)
    · rw [if_pos hc9] at h
      refine ev_aload_n od_139_90 rfl ?_
      refine ev_gf (v := .ref 21) og_139_91 oO_1 rfl ?_
      refine ev_iload od_139_94 rfl ?_
      refine ev_bipush (v := (24 : Int32)) od_139_96 (by decide) ?_
      refine ev_isub od_139_98 ?_
      refine ev_iconst (v := (3 : Int32)) od_139_99 (by decide) ?_
      refine ev_idiv od_139_100 (by decide) ?_
      refine ev_iload od_139_101 rfl ?_
      refine ev_bipush (v := (24 : Int32)) od_139_103 (by decide) ?_
      refine ev_isub od_139_105 ?_
      refine ev_iconst (v := (3 : Int32)) od_139_106 (by decide) ?_
      refine ev_irem od_139_107 (by decide) ?_
      obtain ⟨y5, hy5, h⟩ := ov_bd h
      try dsimp only at h
      refine ev_cvi (y := 74) (n := 2) (a := 21) (c := 3) (as := [.int (((((((((ov_ug G 1 (((G 1) * (6364136223846793005 : Int64)) + (1442695040888963407 : Int64))) 1)).toUInt64 >>> (((33 : Int32)).toInt64.toUInt64 &&& Int64.toUInt64 63)).toInt64) - (((((ov_ug G 1 (((G 1) * (6364136223846793005 : Int64)) + (1442695040888963407 : Int64))) 1)).toUInt64 >>> (((33 : Int32)).toInt64.toUInt64 &&& Int64.toUInt64 63)).toInt64) / (42 : Int64) * (42 : Int64))).toInt32 - (24 : Int32)) / (3 : Int32)), .int (((((((((ov_ug G 1 (((G 1) * (6364136223846793005 : Int64)) + (1442695040888963407 : Int64))) 1)).toUInt64 >>> (((33 : Int32)).toInt64.toUInt64 &&& Int64.toUInt64 63)).toInt64) - (((((ov_ug G 1 (((G 1) * (6364136223846793005 : Int64)) + (1442695040888963407 : Int64))) 1)).toUInt64 >>> (((33 : Int32)).toInt64.toUInt64 &&& Int64.toUInt64 63)).toInt64) / (42 : Int64) * (42 : Int64))).toInt32 - (24 : Int32)) - ((((((((ov_ug G 1 (((G 1) * (6364136223846793005 : Int64)) + (1442695040888963407 : Int64))) 1)).toUInt64 >>> (((33 : Int32)).toInt64.toUInt64 &&& Int64.toUInt64 63)).toInt64) - (((((ov_ug G 1 (((G 1) * (6364136223846793005 : Int64)) + (1442695040888963407 : Int64))) 1)).toUInt64 >>> (((33 : Int32)).toInt64.toUInt64 &&& Int64.toUInt64 63)).toInt64) / (42 : Int64) * (42 : Int64))).toInt32 - (24 : Int32)) / (3 : Int32) * (3 : Int32))]) (rest := []) (dc := 4) oc_139_108 rfl rfl rfl oO_21 rfl rfl rfl rfl (by decide) (R74 oS_21 hy5) ?_
      refine ev_pop od_139_111 rfl ?_
      refine ev_fg (lv0 := [some (.ref 1), some (.int x1), some (.int x2), some (.int x3), none]) (ov_le_s (ov_le_s (ov_le_s (ov_le_s (ov_le_n (ov_le_e)))))) ?_
      exact t139_112_29  h hk
    · rw [if_neg hc9] at h
      refine ev_aload_n od_139_71 rfl ?_
      refine ev_gf (v := .ref 21) og_139_72 oO_1 rfl ?_
      refine ev_iload od_139_75 rfl ?_
      refine ev_iconst (v := (4 : Int32)) od_139_77 (by decide) ?_
      refine ev_idiv od_139_78 (by decide) ?_
      refine ev_iload od_139_79 rfl ?_
      refine ev_iconst (v := (4 : Int32)) od_139_81 (by decide) ?_
      refine ev_irem od_139_82 (by decide) ?_
      obtain ⟨y8, hy8, h⟩ := ov_bd h
      try dsimp only at h
      refine ev_cvi (y := 78) (n := 2) (a := 21) (c := 3) (as := [.int ((((((((ov_ug G 1 (((G 1) * (6364136223846793005 : Int64)) + (1442695040888963407 : Int64))) 1)).toUInt64 >>> (((33 : Int32)).toInt64.toUInt64 &&& Int64.toUInt64 63)).toInt64) - (((((ov_ug G 1 (((G 1) * (6364136223846793005 : Int64)) + (1442695040888963407 : Int64))) 1)).toUInt64 >>> (((33 : Int32)).toInt64.toUInt64 &&& Int64.toUInt64 63)).toInt64) / (42 : Int64) * (42 : Int64))).toInt32 / (4 : Int32)), .int ((((((((ov_ug G 1 (((G 1) * (6364136223846793005 : Int64)) + (1442695040888963407 : Int64))) 1)).toUInt64 >>> (((33 : Int32)).toInt64.toUInt64 &&& Int64.toUInt64 63)).toInt64) - (((((ov_ug G 1 (((G 1) * (6364136223846793005 : Int64)) + (1442695040888963407 : Int64))) 1)).toUInt64 >>> (((33 : Int32)).toInt64.toUInt64 &&& Int64.toUInt64 63)).toInt64) / (42 : Int64) * (42 : Int64))).toInt32 - (((((((ov_ug G 1 (((G 1) * (6364136223846793005 : Int64)) + (1442695040888963407 : Int64))) 1)).toUInt64 >>> (((33 : Int32)).toInt64.toUInt64 &&& Int64.toUInt64 63)).toInt64) - (((((ov_ug G 1 (((G 1) * (6364136223846793005 : Int64)) + (1442695040888963407 : Int64))) 1)).toUInt64 >>> (((33 : Int32)).toInt64.toUInt64 &&& Int64.toUInt64 63)).toInt64) / (42 : Int64) * (42 : Int64))).toInt32 / (4 : Int32) * (4 : Int32))]) (rest := []) (dc := 5) oc_139_83 rfl rfl rfl oO_21 rfl rfl rfl rfl (by decide) (R78 oS_21 hy8) ?_
      refine ev_pop od_139_86 rfl ?_
      refine ev_goto (t := 112) od_139_87 (by decide) ?_
      refine ev_fg (lv0 := [some (.ref 1), some (.int x1), some (.int x2), some (.int x3), none]) (ov_le_s (ov_le_s (ov_le_s (ov_le_s (ov_le_n (ov_le_e)))))) ?_
      exact t139_112_29  h hk
def f139 (S : ov_S) (G : ov_L2) (x1 : Int32) : Option (Int32 × ov_S × ov_L2) :=
  (if x1 < (1 : Int32) then some ((-2 : Int32), S, G) else (if x1 ≤ (30 : Int32) then (f97 21 18 S).bind fun y1 => ((ov_lp (fun s => b139_29 x1 s.1 s.2.1 s.2.2.1 s.2.2.2) 2000 ((0 : Int32), (0 : Int32), y1, G)).bind fun e11 => some (e11.1, e11.2.1, e11.2.2)) else some ((-2 : Int32), S, G)))
theorem t139 {L : Nat} {S : ov_S} {G : ov_L2} {x1 : Int32} {P : Option Value → ov_S → ov_L2 → Prop}  {out : Int32 × ov_S × ov_L2} (h : f139 S G x1 = some out) (hP : P (some (.int out.1)) out.2.1 out.2.2) : ov_J L 5 139 0 [some (.ref 1), some (.int x1), none, none, none] [] S G P := by
  unfold f139 at h
  refine ev_iload_n od_139_0 rfl ?_
  refine ev_iconst (v := (1 : Int32)) od_139_1 (by decide) ?_
  refine ev_icmp_lt (t := 11) od_139_2 (by decide) (fun hc13 => ?_) (fun hc13 => ?_)
  · rw [if_pos hc13] at h
    refine ev_bipush (v := (-2 : Int32)) od_139_11 (by decide) ?_
    cases h
    exact ev_iret od_139_13 rfl hP
  · rw [if_neg hc13] at h
    refine ev_iload_n od_139_5 rfl ?_
    refine ev_bipush (v := (30 : Int32)) od_139_6 (by decide) ?_
    refine ev_icmp_le (t := 14) od_139_8 (by decide) (fun hc12 => ?_) (fun hc12 => ?_)
    · rw [if_pos hc12] at h
      refine ev_aload_n od_139_14 rfl ?_
      refine ev_gf (v := .ref 21) og_139_15 oO_1 rfl ?_
      refine ev_aload_n od_139_18 rfl ?_
      refine ev_gf (v := .ref 18) og_139_19 oO_1 rfl ?_
      obtain ⟨y1, hy1, h⟩ := ov_bd h
      try dsimp only at h
      refine ev_cvv (y := 97) (n := 1) (a := 21) (c := 3) (as := [.ref 18]) (rest := []) (dc := 1) oc_139_22 rfl rfl rfl oO_21 rfl rfl rfl rfl (by decide) (R97 oS_21 oS_18 hy1) ?_
      refine ev_iconst (v := (0 : Int32)) od_139_25 (by decide) ?_
      refine ev_istore_n (lv1 := [some (.ref 1), some (.int x1), some (.int (0 : Int32)), none, none]) od_139_26 rfl rfl ?_
      refine ev_iconst (v := (0 : Int32)) od_139_27 (by decide) ?_
      refine ev_istore_n (lv1 := [some (.ref 1), some (.int x1), some (.int (0 : Int32)), some (.int (0 : Int32)), none]) od_139_28 rfl rfl ?_
      obtain ⟨e11, he11, h⟩ := ov_bd h
      try dsimp only at h
      refine ov_lp_S (body := (fun s => b139_29 x1 s.1 s.2.1 s.2.2.1 s.2.2.2)) (head := (fun s => ov_J L 5 139 29 [some (.ref 1), some (.int x1), some (.int s.1), some (.int s.2.1), none] [] s.2.2.1 s.2.2.2 P)) (exit := (fun e => ov_J L 5 139 131 [none, none, some (.int e.1), none, none] [] e.2.1 e.2.2 P)) (fun s r hb hk => bt139_29  hb hk) 2000 ((0 : Int32), (0 : Int32), y1, G) e11 he11 ?_
      show ov_J L 5 139 131 [none, none, some (.int e11.1), none, none] [] e11.2.1 e11.2.2 P
      refine ev_iload_n od_139_131 rfl ?_
      cases h
      exact ev_iret od_139_132 rfl hP
    · rw [if_neg hc12] at h
      refine ev_bipush (v := (-2 : Int32)) od_139_11 (by decide) ?_
      cases h
      exact ev_iret od_139_13 rfl hP
theorem R139 {L : Nat} {S : ov_S} {G : ov_L2} {x1 : Int32}  {out : Int32 × ov_S × ov_L2} (h : f139 S G x1 = some out) : ov_R L 6 139 [.ref 1, .int x1] S G (some (.int out.1)) out.2.1 out.2.2 :=
  ov_Rof (t139  h ⟨rfl, rfl, rfl⟩)
-- 146 OEModel.fault
def f146 (S : ov_S) : Option (Int32 × ov_S) :=
  (f147 (ov_up S 42 0 (0 : Int32))).bind fun y1 => some (y1.1, y1.2)
theorem t146 {L : Nat} {S : ov_S} {G : ov_L2}  {P : Option Value → ov_S → ov_L2 → Prop}  {out : Int32 × ov_S} (h : f146 S = some out) (hP : P (some (.int out.1)) out.2 G) : ov_J L 5 146 0 [some (.ref 42)] [] S G P := by
  unfold f146 at h
  refine ev_aload_n od_146_0 rfl ?_
  refine ev_iconst (v := (0 : Int32)) od_146_1 (by decide) ?_
  refine ev_pf op_146_2 oO_42 rfl rfl ?_
  refine ev_aload_n od_146_5 rfl ?_
  obtain ⟨y1, hy1, h⟩ := ov_bd h
  try dsimp only at h
  refine ev_cvi (y := 147) (n := 0) (a := 42) (c := 8) (as := []) (rest := []) (dc := 5) oc_146_6 rfl rfl rfl oO_42 rfl rfl rfl rfl (by decide) (R147  hy1) ?_
  cases h
  exact ev_iret od_146_9 rfl hP
theorem R146 {L : Nat} {S : ov_S} {G : ov_L2}   {out : Int32 × ov_S} (h : f146 S = some out) : ov_R L 6 146 [.ref 42] S G (some (.int out.1)) out.2 G :=
  ov_Rof (t146  h ⟨rfl, rfl, rfl⟩)
-- 157 OEModel.play
def f157_138_115 (S : ov_S) (x1 : Int32) (s0 : Int32) (s1 : Int32) : Option ((Int32 × ov_S) ⊕ (ov_S)) :=
  ov_ck (ov_ibb s1 12) (some (.inl ((x1 + (1 : Int32)), (ov_up S 55 (s1).toNatClampNeg s0))))
theorem t157_138_115 {L : Nat} {S : ov_S} {G : ov_L2} {x1 : Int32} {s0 : Int32} {s1 : Int32} {P : Option Value → ov_S → ov_L2 → Prop}  {out : (Int32 × ov_S) ⊕ (ov_S)} (h : f157_138_115 S x1 s0 s1 = some out) (hk : ov_sm (σ := Int32 × ov_S) (ε := (ov_S)) (fun s => ov_J L 5 157 115 [some (.ref 42), some (.int s.1)] [] s.2 G P) (fun e => ov_J L 5 157 145 [some (.ref 42), none] [] e G P) out) : ov_J L 5 157 138 [some (.ref 42), some (.int x1)] [.int s0, .int s1, .ref 55] S G P := by
  unfold f157_138_115 at h
  obtain ⟨bq7, h⟩ := ov_ck_ok h
  refine ev_iast od_157_138 oA_55 (ov_ibk bq7) ?_
  refine ev_iinc (v := (x1 + (1 : Int32))) (lv1 := [some (.ref 42), some (.int (x1 + (1 : Int32)))]) od_157_139 rfl rfl rfl ?_
  refine ev_goto (t := 115) od_157_142 (by decide) ?_
  cases h
  exact hk
def b157_115 (x1 : Int32) (S : ov_S) : Option ((Int32 × ov_S) ⊕ (ov_S)) :=
  (if (12 : Int32) ≤ x1 then some (.inr S) else (if (6 : Int32) ≤ x1 then f157_138_115 S x1 (0 : Int32) x1 else f157_138_115 S x1 (-9 : Int32) x1))
theorem bt157_115 {L : Nat} {S : ov_S} {G : ov_L2} {x1 : Int32} {P : Option Value → ov_S → ov_L2 → Prop}  {out : (Int32 × ov_S) ⊕ (ov_S)} (h : b157_115 x1 S = some out) (hk : ov_sm (σ := Int32 × ov_S) (ε := (ov_S)) (fun s => ov_J L 5 157 115 [some (.ref 42), some (.int s.1)] [] s.2 G P) (fun e => ov_J L 5 157 145 [some (.ref 42), none] [] e G P) out) : ov_J L 5 157 115 [some (.ref 42), some (.int x1)] [] S G P := by
  unfold b157_115 at h
  refine ev_iload_n od_157_115 rfl ?_
  refine ev_bipush (v := (12 : Int32)) od_157_116 (by decide) ?_
  refine ev_icmp_ge (t := 145) od_157_118 (by decide) (fun hc9 => ?_) (fun hc9 => ?_)
  · rw [if_pos hc9] at h
    cases h
    refine ev_fg (lv0 := [some (.ref 42), none]) (ov_le_s (ov_le_n (ov_le_e))) ?_
    exact hk
  · rw [if_neg hc9] at h
    refine ev_aload_n od_157_121 rfl ?_
    refine ev_gf (v := .ref 55) og_157_122 oO_42 rfl ?_
    refine ev_iload_n od_157_125 rfl ?_
    refine ev_iload_n od_157_126 rfl ?_
    refine ev_bipush (v := (6 : Int32)) od_157_127 (by decide) ?_
    refine ev_icmp_ge (t := 137) od_157_129 (by decide) (fun hc8 => ?_) (fun hc8 => ?_)
    · rw [if_pos hc8] at h
      refine ev_iconst (v := (0 : Int32)) od_157_137 (by decide) ?_
      exact t157_138_115  h hk
    · rw [if_neg hc8] at h
      refine ev_bipush (v := (-9 : Int32)) od_157_132 (by decide) ?_
      refine ev_goto (t := 138) od_157_134 (by decide) ?_
      exact t157_138_115  h hk
def b157_147 (x1 : Int32) (S : ov_S) : Option ((Int32 × ov_S) ⊕ (ov_S)) :=
  (if (S 42 6) ≤ x1 then some (.inr S) else ov_ck (ov_ibb x1 4) (ov_ck (ov_ibb ((7 : Int32) + x1) 12) (some (.inl ((x1 + (1 : Int32)), (ov_up S 55 (((7 : Int32) + x1)).toNatClampNeg (S 50 (x1).toNatClampNeg)))))))
theorem bt157_147 {L : Nat} {S : ov_S} {G : ov_L2} {x1 : Int32} {P : Option Value → ov_S → ov_L2 → Prop}  {out : (Int32 × ov_S) ⊕ (ov_S)} (h : b157_147 x1 S = some out) (hk : ov_sm (σ := Int32 × ov_S) (ε := (ov_S)) (fun s => ov_J L 5 157 147 [some (.ref 42), some (.int s.1)] [] s.2 G P) (fun e => ov_J L 5 157 176 [some (.ref 42), none] [] e G P) out) : ov_J L 5 157 147 [some (.ref 42), some (.int x1)] [] S G P := by
  unfold b157_147 at h
  refine ev_iload_n od_157_147 rfl ?_
  refine ev_aload_n od_157_148 rfl ?_
  refine ev_gf (v := .int (S 42 6)) og_157_149 oO_42 rfl ?_
  refine ev_icmp_ge (t := 176) od_157_152 (by decide) (fun hc13 => ?_) (fun hc13 => ?_)
  · rw [if_pos hc13] at h
    cases h
    refine ev_fg (lv0 := [some (.ref 42), none]) (ov_le_s (ov_le_n (ov_le_e))) ?_
    exact hk
  · rw [if_neg hc13] at h
    refine ev_aload_n od_157_155 rfl ?_
    refine ev_gf (v := .ref 55) og_157_156 oO_42 rfl ?_
    refine ev_bipush (v := (7 : Int32)) od_157_159 (by decide) ?_
    refine ev_iload_n od_157_161 rfl ?_
    refine ev_iadd od_157_162 ?_
    refine ev_aload_n od_157_163 rfl ?_
    refine ev_gf (v := .ref 50) og_157_164 oO_42 rfl ?_
    refine ev_iload_n od_157_167 rfl ?_
    obtain ⟨bq11, h⟩ := ov_ck_ok h
    refine ev_iald od_157_168 oA_50 (ov_ibk bq11) ?_
    obtain ⟨bq12, h⟩ := ov_ck_ok h
    refine ev_iast od_157_169 oA_55 (ov_ibk bq12) ?_
    refine ev_iinc (v := (x1 + (1 : Int32))) (lv1 := [some (.ref 42), some (.int (x1 + (1 : Int32)))]) od_157_170 rfl rfl rfl ?_
    refine ev_goto (t := 147) od_157_173 (by decide) ?_
    cases h
    exact hk
def f157 (S : ov_S) : Option (Int32 × ov_S) :=
  (f147 (ov_up S 42 0 (0 : Int32))).bind fun y1 => (if y1.1 = (-9 : Int32) then (f158 49 44 (ov_up (ov_up (ov_up (ov_up y1.2 42 4 (y1.2 42 13)) 42 6 ((ov_up y1.2 42 4 (y1.2 42 13)) 42 15)) 42 7 ((ov_up (ov_up y1.2 42 4 (y1.2 42 13)) 42 6 ((ov_up y1.2 42 4 (y1.2 42 13)) 42 15)) 42 17)) 42 10 ((ov_up (ov_up (ov_up y1.2 42 4 (y1.2 42 13)) 42 6 ((ov_up y1.2 42 4 (y1.2 42 13)) 42 15)) 42 7 ((ov_up (ov_up y1.2 42 4 (y1.2 42 13)) 42 6 ((ov_up y1.2 42 4 (y1.2 42 13)) 42 15)) 42 17)) 42 20)) (3 : Int32)).bind fun y2 => (f158 51 45 y2 (6 : Int32)).bind fun y3 => (f158 52 46 y3 (6 : Int32)).bind fun y4 => (f158 53 47 y4 (6 : Int32)).bind fun y5 => (f158 54 48 y5 (6 : Int32)).bind fun y6 => ((ov_lp (fun s => b157_115  s.1 s.2) 2000 ((0 : Int32), y6)).bind fun e10 => ((ov_lp (fun s => b157_147  s.1 s.2) 2000 ((0 : Int32), e10)).bind fun e14 => some ((((((1000 : Int32) * ((ov_up (ov_up (ov_up e14 42 27 (0 : Int32)) 60 ((0 : Int32)).toNatClampNeg (0 : Int32)) 60 ((1 : Int32)).toNatClampNeg (0 : Int32)) 42 4)) + ((100 : Int32) * ((ov_up (ov_up (ov_up e14 42 27 (0 : Int32)) 60 ((0 : Int32)).toNatClampNeg (0 : Int32)) 60 ((1 : Int32)).toNatClampNeg (0 : Int32)) 42 6))) + ((10 : Int32) * ((ov_up (ov_up (ov_up e14 42 27 (0 : Int32)) 60 ((0 : Int32)).toNatClampNeg (0 : Int32)) 60 ((1 : Int32)).toNatClampNeg (0 : Int32)) 42 7))) + ((ov_up (ov_up (ov_up e14 42 27 (0 : Int32)) 60 ((0 : Int32)).toNatClampNeg (0 : Int32)) 60 ((1 : Int32)).toNatClampNeg (0 : Int32)) 42 10)), (ov_up (ov_up (ov_up e14 42 27 (0 : Int32)) 60 ((0 : Int32)).toNatClampNeg (0 : Int32)) 60 ((1 : Int32)).toNatClampNeg (0 : Int32))))) else some ((-3 : Int32), y1.2))
theorem t157 {L : Nat} {S : ov_S} {G : ov_L2}  {P : Option Value → ov_S → ov_L2 → Prop}  {out : Int32 × ov_S} (h : f157 S = some out) (hP : P (some (.int out.1)) out.2 G) : ov_J L 5 157 0 [some (.ref 42), none] [] S G P := by
  unfold f157 at h
  refine ev_aload_n od_157_0 rfl ?_
  refine ev_iconst (v := (0 : Int32)) od_157_1 (by decide) ?_
  refine ev_pf op_157_2 oO_42 rfl rfl ?_
  refine ev_aload_n od_157_5 rfl ?_
  obtain ⟨y1, hy1, h⟩ := ov_bd h
  try dsimp only at h
  refine ev_cvi (y := 147) (n := 0) (a := 42) (c := 8) (as := []) (rest := []) (dc := 5) oc_157_6 rfl rfl rfl oO_42 rfl rfl rfl rfl (by decide) (R147  hy1) ?_
  refine ev_bipush (v := (-9 : Int32)) od_157_9 (by decide) ?_
  refine ev_icmp_eq (t := 17) od_157_11 (by decide) (fun hc15 => ?_) (fun hc15 => ?_)
  · rw [if_pos hc15] at h
    refine ev_aload_n od_157_17 rfl ?_
    refine ev_aload_n od_157_18 rfl ?_
    refine ev_gf (v := .int (y1.2 42 13)) og_157_19 oO_42 rfl ?_
    refine ev_pf op_157_22 oO_42 rfl rfl ?_
    refine ev_aload_n od_157_25 rfl ?_
    refine ev_aload_n od_157_26 rfl ?_
    refine ev_gf (v := .int ((ov_up y1.2 42 4 (y1.2 42 13)) 42 15)) og_157_27 oO_42 rfl ?_
    refine ev_pf op_157_30 oO_42 rfl rfl ?_
    refine ev_aload_n od_157_33 rfl ?_
    refine ev_aload_n od_157_34 rfl ?_
    refine ev_gf (v := .int ((ov_up (ov_up y1.2 42 4 (y1.2 42 13)) 42 6 ((ov_up y1.2 42 4 (y1.2 42 13)) 42 15)) 42 17)) og_157_35 oO_42 rfl ?_
    refine ev_pf op_157_38 oO_42 rfl rfl ?_
    refine ev_aload_n od_157_41 rfl ?_
    refine ev_aload_n od_157_42 rfl ?_
    refine ev_gf (v := .int ((ov_up (ov_up (ov_up y1.2 42 4 (y1.2 42 13)) 42 6 ((ov_up y1.2 42 4 (y1.2 42 13)) 42 15)) 42 7 ((ov_up (ov_up y1.2 42 4 (y1.2 42 13)) 42 6 ((ov_up y1.2 42 4 (y1.2 42 13)) 42 15)) 42 17)) 42 20)) og_157_43 oO_42 rfl ?_
    refine ev_pf op_157_46 oO_42 rfl rfl ?_
    refine ev_aload_n od_157_49 rfl ?_
    refine ev_gf (v := .ref 49) og_157_50 oO_42 rfl ?_
    refine ev_aload_n od_157_53 rfl ?_
    refine ev_gf (v := .ref 44) og_157_54 oO_42 rfl ?_
    refine ev_iconst (v := (3 : Int32)) od_157_57 (by decide) ?_
    obtain ⟨y2, hy2, h⟩ := ov_bd h
    try dsimp only at h
    refine ev_csv (y := 158) (n := 3) (as := [.ref 49, .ref 44, .int (3 : Int32)]) (rest := []) (dc := 1) oc_157_58 rfl rfl rfl rfl rfl (by decide) (R158 oA_49 oA_44 hy2) ?_
    refine ev_aload_n od_157_61 rfl ?_
    refine ev_gf (v := .ref 51) og_157_62 oO_42 rfl ?_
    refine ev_aload_n od_157_65 rfl ?_
    refine ev_gf (v := .ref 45) og_157_66 oO_42 rfl ?_
    refine ev_bipush (v := (6 : Int32)) od_157_69 (by decide) ?_
    obtain ⟨y3, hy3, h⟩ := ov_bd h
    try dsimp only at h
    refine ev_csv (y := 158) (n := 3) (as := [.ref 51, .ref 45, .int (6 : Int32)]) (rest := []) (dc := 1) oc_157_71 rfl rfl rfl rfl rfl (by decide) (R158 oA_51 oA_45 hy3) ?_
    refine ev_aload_n od_157_74 rfl ?_
    refine ev_gf (v := .ref 52) og_157_75 oO_42 rfl ?_
    refine ev_aload_n od_157_78 rfl ?_
    refine ev_gf (v := .ref 46) og_157_79 oO_42 rfl ?_
    refine ev_bipush (v := (6 : Int32)) od_157_82 (by decide) ?_
    obtain ⟨y4, hy4, h⟩ := ov_bd h
    try dsimp only at h
    refine ev_csv (y := 158) (n := 3) (as := [.ref 52, .ref 46, .int (6 : Int32)]) (rest := []) (dc := 1) oc_157_84 rfl rfl rfl rfl rfl (by decide) (R158 oA_52 oA_46 hy4) ?_
    refine ev_aload_n od_157_87 rfl ?_
    refine ev_gf (v := .ref 53) og_157_88 oO_42 rfl ?_
    refine ev_aload_n od_157_91 rfl ?_
    refine ev_gf (v := .ref 47) og_157_92 oO_42 rfl ?_
    refine ev_bipush (v := (6 : Int32)) od_157_95 (by decide) ?_
    obtain ⟨y5, hy5, h⟩ := ov_bd h
    try dsimp only at h
    refine ev_csv (y := 158) (n := 3) (as := [.ref 53, .ref 47, .int (6 : Int32)]) (rest := []) (dc := 1) oc_157_97 rfl rfl rfl rfl rfl (by decide) (R158 oA_53 oA_47 hy5) ?_
    refine ev_aload_n od_157_100 rfl ?_
    refine ev_gf (v := .ref 54) og_157_101 oO_42 rfl ?_
    refine ev_aload_n od_157_104 rfl ?_
    refine ev_gf (v := .ref 48) og_157_105 oO_42 rfl ?_
    refine ev_bipush (v := (6 : Int32)) od_157_108 (by decide) ?_
    obtain ⟨y6, hy6, h⟩ := ov_bd h
    try dsimp only at h
    refine ev_csv (y := 158) (n := 3) (as := [.ref 54, .ref 48, .int (6 : Int32)]) (rest := []) (dc := 1) oc_157_110 rfl rfl rfl rfl rfl (by decide) (R158 oA_54 oA_48 hy6) ?_
    refine ev_iconst (v := (0 : Int32)) od_157_113 (by decide) ?_
    refine ev_istore_n (lv1 := [some (.ref 42), some (.int (0 : Int32))]) od_157_114 rfl rfl ?_
    obtain ⟨e10, he10, h⟩ := ov_bd h
    try dsimp only at h
    refine ov_lp_S (body := (fun s => b157_115  s.1 s.2)) (head := (fun s => ov_J L 5 157 115 [some (.ref 42), some (.int s.1)] [] s.2 G P)) (exit := (fun e => ov_J L 5 157 145 [some (.ref 42), none] [] e G P)) (fun s r hb hk => bt157_115  hb hk) 2000 ((0 : Int32), y6) e10 he10 ?_
    show ov_J L 5 157 145 [some (.ref 42), none] [] e10 G P
    refine ev_iconst (v := (0 : Int32)) od_157_145 (by decide) ?_
    refine ev_istore_n (lv1 := [some (.ref 42), some (.int (0 : Int32))]) od_157_146 rfl rfl ?_
    obtain ⟨e14, he14, h⟩ := ov_bd h
    try dsimp only at h
    refine ov_lp_S (body := (fun s => b157_147  s.1 s.2)) (head := (fun s => ov_J L 5 157 147 [some (.ref 42), some (.int s.1)] [] s.2 G P)) (exit := (fun e => ov_J L 5 157 176 [some (.ref 42), none] [] e G P)) (fun s r hb hk => bt157_147  hb hk) 2000 ((0 : Int32), e10) e14 he14 ?_
    show ov_J L 5 157 176 [some (.ref 42), none] [] e14 G P
    refine ev_aload_n od_157_176 rfl ?_
    refine ev_iconst (v := (0 : Int32)) od_157_177 (by decide) ?_
    refine ev_pf op_157_178 oO_42 rfl rfl ?_
    refine ev_aload_n od_157_181 rfl ?_
    refine ev_gf (v := .ref 60) og_157_182 oO_42 rfl ?_
    refine ev_iconst (v := (0 : Int32)) od_157_185 (by decide) ?_
    refine ev_iconst (v := (0 : Int32)) od_157_186 (by decide) ?_
    refine ev_bast (y := (0 : Int32)) od_157_187 oA_60 (ov_ibk (by decide)) rfl ?_
    refine ev_aload_n od_157_188 rfl ?_
    refine ev_gf (v := .ref 60) og_157_189 oO_42 rfl ?_
    refine ev_iconst (v := (1 : Int32)) od_157_192 (by decide) ?_
    refine ev_iconst (v := (0 : Int32)) od_157_193 (by decide) ?_
    refine ev_bast (y := (0 : Int32)) od_157_194 oA_60 (ov_ibk (by decide)) rfl ?_
    refine ev_sipush (v := (1000 : Int32)) od_157_195 (by decide) ?_
    refine ev_aload_n od_157_198 rfl ?_
    refine ev_gf (v := .int ((ov_up (ov_up (ov_up e14 42 27 (0 : Int32)) 60 ((0 : Int32)).toNatClampNeg (0 : Int32)) 60 ((1 : Int32)).toNatClampNeg (0 : Int32)) 42 4)) og_157_199 oO_42 rfl ?_
    refine ev_imul od_157_202 ?_
    refine ev_bipush (v := (100 : Int32)) od_157_203 (by decide) ?_
    refine ev_aload_n od_157_205 rfl ?_
    refine ev_gf (v := .int ((ov_up (ov_up (ov_up e14 42 27 (0 : Int32)) 60 ((0 : Int32)).toNatClampNeg (0 : Int32)) 60 ((1 : Int32)).toNatClampNeg (0 : Int32)) 42 6)) og_157_206 oO_42 rfl ?_
    refine ev_imul od_157_209 ?_
    refine ev_iadd od_157_210 ?_
    refine ev_bipush (v := (10 : Int32)) od_157_211 (by decide) ?_
    refine ev_aload_n od_157_213 rfl ?_
    refine ev_gf (v := .int ((ov_up (ov_up (ov_up e14 42 27 (0 : Int32)) 60 ((0 : Int32)).toNatClampNeg (0 : Int32)) 60 ((1 : Int32)).toNatClampNeg (0 : Int32)) 42 7)) og_157_214 oO_42 rfl ?_
    refine ev_imul od_157_217 ?_
    refine ev_iadd od_157_218 ?_
    refine ev_aload_n od_157_219 rfl ?_
    refine ev_gf (v := .int ((ov_up (ov_up (ov_up e14 42 27 (0 : Int32)) 60 ((0 : Int32)).toNatClampNeg (0 : Int32)) 60 ((1 : Int32)).toNatClampNeg (0 : Int32)) 42 10)) og_157_220 oO_42 rfl ?_
    refine ev_iadd od_157_223 ?_
    cases h
    exact ev_iret od_157_224 rfl hP
  · rw [if_neg hc15] at h
    refine ev_bipush (v := (-3 : Int32)) od_157_14 (by decide) ?_
    cases h
    exact ev_iret od_157_16 rfl hP
theorem R157 {L : Nat} {S : ov_S} {G : ov_L2}   {out : Int32 × ov_S} (h : f157 S = some out) : ov_R L 6 157 [.ref 42] S G (some (.int out.1)) out.2 G :=
  ov_Rof (t157  h ⟨rfl, rfl, rfl⟩)
