-- 159 OEModel.about
def f159 (S : ov_S) (x1 : Int32) : Option (Int32 × ov_S) :=
  (if x1 = (0 : Int32) then some (((ov_up S 42 0 (0 : Int32)) 42 4), (ov_up S 42 0 (0 : Int32))) else if x1 = (1 : Int32) then some (((ov_up S 42 0 (0 : Int32)) 42 6), (ov_up S 42 0 (0 : Int32))) else if x1 = (2 : Int32) then some (((ov_up S 42 0 (0 : Int32)) 42 7), (ov_up S 42 0 (0 : Int32))) else if x1 = (3 : Int32) then some (((ov_up S 42 0 (0 : Int32)) 42 10), (ov_up S 42 0 (0 : Int32))) else if x1 = (4 : Int32) then (f160 55 (ov_up S 42 0 (0 : Int32))).bind fun y6 => some (y6, (ov_up S 42 0 (0 : Int32))) else if x1 = (5 : Int32) then (f161 55 (ov_up S 42 0 (0 : Int32))).bind fun y8 => some (y8, (ov_up S 42 0 (0 : Int32))) else if x1 = (6 : Int32) then some (((ov_up S 42 0 (0 : Int32)) 55 ((6 : Int32)).toNatClampNeg), (ov_up S 42 0 (0 : Int32))) else if x1 = (7 : Int32) then (f163 55 (ov_up S 42 0 (0 : Int32))).bind fun y11 => some (y11, (ov_up S 42 0 (0 : Int32))) else if x1 = (8 : Int32) then (f170 55 (ov_up S 42 0 (0 : Int32))).bind fun y14 => some (((262143 : Int32) &&& (y14 ^^^ (-1 : Int32))), (ov_up S 42 0 (0 : Int32))) else if x1 = (9 : Int32) then some (((ov_up S 42 0 (0 : Int32)) 55 ((11 : Int32)).toNatClampNeg), (ov_up S 42 0 (0 : Int32))) else if x1 = (10 : Int32) then some (((ov_up S 42 0 (0 : Int32)) 42 27), (ov_up S 42 0 (0 : Int32))) else if x1 = (11 : Int32) then some (((ov_up S 42 0 (0 : Int32)) 42 30), (ov_up S 42 0 (0 : Int32))) else if x1 = (12 : Int32) then some (((ov_up S 42 0 (0 : Int32)) 42 2), (ov_up S 42 0 (0 : Int32))) else some ((-2 : Int32), (ov_up S 42 0 (0 : Int32))))
theorem t159 {L : Nat} {S : ov_S} {G : ov_L2} {x1 : Int32} {P : Option Value → ov_S → ov_L2 → Prop}  {out : Int32 × ov_S} (h : f159 S x1 = some out) (hP : P (some (.int out.1)) out.2 G) : ov_J L 5 159 0 [some (.ref 42), some (.int x1)] [] S G P := by
  unfold f159 at h
  refine ev_aload_n od_159_0 rfl ?_
  refine ev_iconst (v := (0 : Int32)) od_159_1 (by decide) ?_
  refine ev_pf op_159_2 oO_42 rfl rfl ?_
  refine ev_iload_n od_159_5 rfl ?_
  by_cases hc1 : x1 = (0 : Int32)
  · rw [if_pos hc1] at h
    refine ev_tsc (off := 66) (t := 72) hc1 od_159_6 (by decide) (by decide) ?_
    refine ev_aload_n od_159_72 rfl ?_
    refine ev_gf (v := .int ((ov_up S 42 0 (0 : Int32)) 42 4)) og_159_73 oO_42 rfl ?_
    cases h
    exact ev_iret od_159_76 rfl hP
  rw [if_neg hc1] at h
  by_cases hc2 : x1 = (1 : Int32)
  · rw [if_pos hc2] at h
    refine ev_tsc (off := 71) (t := 77) hc2 od_159_6 (by decide) (by decide) ?_
    refine ev_aload_n od_159_77 rfl ?_
    refine ev_gf (v := .int ((ov_up S 42 0 (0 : Int32)) 42 6)) og_159_78 oO_42 rfl ?_
    cases h
    exact ev_iret od_159_81 rfl hP
  rw [if_neg hc2] at h
  by_cases hc3 : x1 = (2 : Int32)
  · rw [if_pos hc3] at h
    refine ev_tsc (off := 76) (t := 82) hc3 od_159_6 (by decide) (by decide) ?_
    refine ev_aload_n od_159_82 rfl ?_
    refine ev_gf (v := .int ((ov_up S 42 0 (0 : Int32)) 42 7)) og_159_83 oO_42 rfl ?_
    cases h
    exact ev_iret od_159_86 rfl hP
  rw [if_neg hc3] at h
  by_cases hc4 : x1 = (3 : Int32)
  · rw [if_pos hc4] at h
    refine ev_tsc (off := 81) (t := 87) hc4 od_159_6 (by decide) (by decide) ?_
    refine ev_aload_n od_159_87 rfl ?_
    refine ev_gf (v := .int ((ov_up S 42 0 (0 : Int32)) 42 10)) og_159_88 oO_42 rfl ?_
    cases h
    exact ev_iret od_159_91 rfl hP
  rw [if_neg hc4] at h
  by_cases hc5 : x1 = (4 : Int32)
  · rw [if_pos hc5] at h
    refine ev_tsc (off := 86) (t := 92) hc5 od_159_6 (by decide) (by decide) ?_
    refine ev_aload_n od_159_92 rfl ?_
    refine ev_aload_n od_159_93 rfl ?_
    refine ev_gf (v := .ref 55) og_159_94 oO_42 rfl ?_
    obtain ⟨y6, hy6, h⟩ := ov_bd h
    try dsimp only at h
    refine ev_cvi (y := 160) (n := 1) (a := 42) (c := 8) (as := [.ref 55]) (rest := []) (dc := 1) oc_159_97 rfl rfl rfl oO_42 rfl rfl rfl rfl (by decide) (R160 oA_55 hy6) ?_
    cases h
    exact ev_iret od_159_100 rfl hP
  rw [if_neg hc5] at h
  by_cases hc7 : x1 = (5 : Int32)
  · rw [if_pos hc7] at h
    refine ev_tsc (off := 95) (t := 101) hc7 od_159_6 (by decide) (by decide) ?_
    refine ev_aload_n od_159_101 rfl ?_
    refine ev_aload_n od_159_102 rfl ?_
    refine ev_gf (v := .ref 55) og_159_103 oO_42 rfl ?_
    obtain ⟨y8, hy8, h⟩ := ov_bd h
    try dsimp only at h
    refine ev_cvi (y := 161) (n := 1) (a := 42) (c := 8) (as := [.ref 55]) (rest := []) (dc := 2) oc_159_106 rfl rfl rfl oO_42 rfl rfl rfl rfl (by decide) (R161 oA_55 hy8) ?_
    cases h
    exact ev_iret od_159_109 rfl hP
  rw [if_neg hc7] at h
  by_cases hc9 : x1 = (6 : Int32)
  · rw [if_pos hc9] at h
    refine ev_tsc (off := 104) (t := 110) hc9 od_159_6 (by decide) (by decide) ?_
    refine ev_aload_n od_159_110 rfl ?_
    refine ev_gf (v := .ref 55) og_159_111 oO_42 rfl ?_
    refine ev_bipush (v := (6 : Int32)) od_159_114 (by decide) ?_
    refine ev_iald od_159_116 oA_55 (ov_ibk (by decide)) ?_
    cases h
    exact ev_iret od_159_117 rfl hP
  rw [if_neg hc9] at h
  by_cases hc10 : x1 = (7 : Int32)
  · rw [if_pos hc10] at h
    refine ev_tsc (off := 112) (t := 118) hc10 od_159_6 (by decide) (by decide) ?_
    refine ev_aload_n od_159_118 rfl ?_
    refine ev_aload_n od_159_119 rfl ?_
    refine ev_gf (v := .ref 55) og_159_120 oO_42 rfl ?_
    obtain ⟨y11, hy11, h⟩ := ov_bd h
    try dsimp only at h
    refine ev_cvi (y := 163) (n := 1) (a := 42) (c := 8) (as := [.ref 55]) (rest := []) (dc := 5) oc_159_123 rfl rfl rfl oO_42 rfl rfl rfl rfl (by decide) (R163 oA_55 hy11) ?_
    cases h
    exact ev_iret od_159_126 rfl hP
  rw [if_neg hc10] at h
  by_cases hc12 : x1 = (8 : Int32)
  · rw [if_pos hc12] at h
    refine ev_tsc (off := 121) (t := 127) hc12 od_159_6 (by decide) (by decide) ?_
    obtain ⟨w13, hw13⟩ := ok_159_127
    refine ev_ldc od_159_127 hw13 ?_
    refine ev_aload_n od_159_129 rfl ?_
    refine ev_aload_n od_159_130 rfl ?_
    refine ev_gf (v := .ref 55) og_159_131 oO_42 rfl ?_
    obtain ⟨y14, hy14, h⟩ := ov_bd h
    try dsimp only at h
    refine ev_cvi (y := 170) (n := 1) (a := 42) (c := 8) (as := [.ref 55]) (rest := [.int (262143 : Int32)]) (dc := 2) oc_159_134 rfl rfl rfl oO_42 rfl rfl rfl rfl (by decide) (R170 oA_55 hy14) ?_
    refine ev_iconst (v := (-1 : Int32)) od_159_137 (by decide) ?_
    refine ev_ixor od_159_138 ?_
    refine ev_iand od_159_139 ?_
    cases h
    exact ev_iret od_159_140 rfl hP
  rw [if_neg hc12] at h
  by_cases hc15 : x1 = (9 : Int32)
  · rw [if_pos hc15] at h
    refine ev_tsc (off := 135) (t := 141) hc15 od_159_6 (by decide) (by decide) ?_
    refine ev_aload_n od_159_141 rfl ?_
    refine ev_gf (v := .ref 55) og_159_142 oO_42 rfl ?_
    refine ev_bipush (v := (11 : Int32)) od_159_145 (by decide) ?_
    refine ev_iald od_159_147 oA_55 (ov_ibk (by decide)) ?_
    cases h
    exact ev_iret od_159_148 rfl hP
  rw [if_neg hc15] at h
  by_cases hc16 : x1 = (10 : Int32)
  · rw [if_pos hc16] at h
    refine ev_tsc (off := 143) (t := 149) hc16 od_159_6 (by decide) (by decide) ?_
    refine ev_aload_n od_159_149 rfl ?_
    refine ev_gf (v := .int ((ov_up S 42 0 (0 : Int32)) 42 27)) og_159_150 oO_42 rfl ?_
    cases h
    exact ev_iret od_159_153 rfl hP
  rw [if_neg hc16] at h
  by_cases hc17 : x1 = (11 : Int32)
  · rw [if_pos hc17] at h
    refine ev_tsc (off := 148) (t := 154) hc17 od_159_6 (by decide) (by decide) ?_
    refine ev_aload_n od_159_154 rfl ?_
    refine ev_gf (v := .int ((ov_up S 42 0 (0 : Int32)) 42 30)) og_159_155 oO_42 rfl ?_
    cases h
    exact ev_iret od_159_158 rfl hP
  rw [if_neg hc17] at h
  by_cases hc18 : x1 = (12 : Int32)
  · rw [if_pos hc18] at h
    refine ev_tsc (off := 153) (t := 159) hc18 od_159_6 (by decide) (by decide) ?_
    refine ev_aload_n od_159_159 rfl ?_
    refine ev_gf (v := .int ((ov_up S 42 0 (0 : Int32)) 42 2)) og_159_160 oO_42 rfl ?_
    cases h
    exact ev_iret od_159_163 rfl hP
  rw [if_neg hc18] at h
  have ehc1 := ov_ni hc1
  have ehc2 := ov_ni hc2
  have ehc3 := ov_ni hc3
  have ehc4 := ov_ni hc4
  have ehc5 := ov_ni hc5
  have ehc7 := ov_ni hc7
  have ehc9 := ov_ni hc9
  have ehc10 := ov_ni hc10
  have ehc12 := ov_ni hc12
  have ehc15 := ov_ni hc15
  have ehc16 := ov_ni hc16
  have ehc17 := ov_ni hc17
  have ehc18 := ov_ni hc18
  have hout : (x1).toInt < 0 ∨ 12 < (x1).toInt := by
    rw [show ((0 : Int32)).toInt = 0 from by decide] at ehc1
    rw [show ((1 : Int32)).toInt = 1 from by decide] at ehc2
    rw [show ((2 : Int32)).toInt = 2 from by decide] at ehc3
    rw [show ((3 : Int32)).toInt = 3 from by decide] at ehc4
    rw [show ((4 : Int32)).toInt = 4 from by decide] at ehc5
    rw [show ((5 : Int32)).toInt = 5 from by decide] at ehc7
    rw [show ((6 : Int32)).toInt = 6 from by decide] at ehc9
    rw [show ((7 : Int32)).toInt = 7 from by decide] at ehc10
    rw [show ((8 : Int32)).toInt = 8 from by decide] at ehc12
    rw [show ((9 : Int32)).toInt = 9 from by decide] at ehc15
    rw [show ((10 : Int32)).toInt = 10 from by decide] at ehc16
    rw [show ((11 : Int32)).toInt = 11 from by decide] at ehc17
    rw [show ((12 : Int32)).toInt = 12 from by decide] at ehc18
    omega
  refine ev_tsd (t := 164) hout od_159_6 (by decide) ?_
  refine ev_bipush (v := (-2 : Int32)) od_159_164 (by decide) ?_
  cases h
  exact ev_iret od_159_166 rfl hP
theorem R159 {L : Nat} {S : ov_S} {G : ov_L2} {x1 : Int32}  {out : Int32 × ov_S} (h : f159 S x1 = some out) : ov_R L 6 159 [.ref 42, .int x1] S G (some (.int out.1)) out.2 G :=
  ov_Rof (t159  h ⟨rfl, rfl, rfl⟩)
-- 198 OEModel.findPlace
def f198_119_44 (S : ov_S) (x1 : Int32) (x2 : Int32) (x3 : Int32) : Option ((Int32 × ov_S) ⊕ (ov_S)) :=
  some (.inl ((x3 + (1 : Int32)), S))
theorem t198_119_44 {L : Nat} {S : ov_S} {G : ov_L2} {x1 : Int32} {x2 : Int32} {x3 : Int32} {P : Option Value → ov_S → ov_L2 → Prop}  {out : (Int32 × ov_S) ⊕ (ov_S)} (h : f198_119_44 S x1 x2 x3 = some out) (hk : ov_sm (σ := Int32 × ov_S) (ε := (ov_S)) (fun s => ov_J L 5 198 44 [some (.ref 42), some (.int x1), some (.int x2), some (.int s.1), none] [] s.2 G P) (fun e => ov_J L 5 198 125 [some (.ref 42), some (.int x1), some (.int x2), none, none] [] e G P) out) : ov_J L 5 198 119 [some (.ref 42), some (.int x1), some (.int x2), some (.int x3), none] [] S G P := by
  unfold f198_119_44 at h
  refine ev_iinc (v := (x3 + (1 : Int32))) (lv1 := [some (.ref 42), some (.int x1), some (.int x2), some (.int (x3 + (1 : Int32))), none]) od_198_119 rfl rfl rfl ?_
  refine ev_goto (t := 44) od_198_122 (by decide) ?_
  cases h
  exact hk
def f198_116_44 (S : ov_S) (x1 : Int32) (x2 : Int32) (x3 : Int32) (s0 : Int32) : Option ((Int32 × ov_S) ⊕ (ov_S)) :=
  f198_119_44 (ov_up S 42 37 s0) x1 x2 x3
theorem t198_116_44 {L : Nat} {S : ov_S} {G : ov_L2} {x1 : Int32} {x2 : Int32} {x3 : Int32} {s0 : Int32} {P : Option Value → ov_S → ov_L2 → Prop}  {out : (Int32 × ov_S) ⊕ (ov_S)} (h : f198_116_44 S x1 x2 x3 s0 = some out) (hk : ov_sm (σ := Int32 × ov_S) (ε := (ov_S)) (fun s => ov_J L 5 198 44 [some (.ref 42), some (.int x1), some (.int x2), some (.int s.1), none] [] s.2 G P) (fun e => ov_J L 5 198 125 [some (.ref 42), some (.int x1), some (.int x2), none, none] [] e G P) out) : ov_J L 5 198 116 [some (.ref 42), some (.int x1), some (.int x2), some (.int x3), none] [.int s0, .ref 42] S G P := by
  unfold f198_116_44 at h
  refine ev_pf op_198_116 oO_42 rfl rfl ?_
  exact t198_119_44  h hk
def f198_94_44 (S : ov_S) (x1 : Int32) (x2 : Int32) (x3 : Int32) (x4 : Int32) (s0 : Int32) : Option ((Int32 × ov_S) ⊕ (ov_S)) :=
  (if x4 ≤ ((ov_up S 42 36 s0) 42 37) then f198_116_44 (ov_up S 42 36 s0) x1 x2 x3 ((ov_up S 42 36 s0) 42 37) else f198_116_44 (ov_up S 42 36 s0) x1 x2 x3 x4)
theorem t198_94_44 {L : Nat} {S : ov_S} {G : ov_L2} {x1 : Int32} {x2 : Int32} {x3 : Int32} {x4 : Int32} {s0 : Int32} {P : Option Value → ov_S → ov_L2 → Prop}  {out : (Int32 × ov_S) ⊕ (ov_S)} (h : f198_94_44 S x1 x2 x3 x4 s0 = some out) (hk : ov_sm (σ := Int32 × ov_S) (ε := (ov_S)) (fun s => ov_J L 5 198 44 [some (.ref 42), some (.int x1), some (.int x2), some (.int s.1), none] [] s.2 G P) (fun e => ov_J L 5 198 125 [some (.ref 42), some (.int x1), some (.int x2), none, none] [] e G P) out) : ov_J L 5 198 94 [some (.ref 42), some (.int x1), some (.int x2), some (.int x3), some (.int x4)] [.int s0, .ref 42] S G P := by
  unfold f198_94_44 at h
  refine ev_pf op_198_94 oO_42 rfl rfl ?_
  refine ev_aload_n od_198_97 rfl ?_
  refine ev_iload od_198_98 rfl ?_
  refine ev_aload_n od_198_100 rfl ?_
  refine ev_gf (v := .int ((ov_up S 42 36 s0) 42 37)) og_198_101 oO_42 rfl ?_
  refine ev_icmp_le (t := 112) od_198_104 (by decide) (fun hc6 => ?_) (fun hc6 => ?_)
  · rw [if_pos hc6] at h
    refine ev_aload_n od_198_112 rfl ?_
    refine ev_gf (v := .int ((ov_up S 42 36 s0) 42 37)) og_198_113 oO_42 rfl ?_
    refine ev_fg (lv0 := [some (.ref 42), some (.int x1), some (.int x2), some (.int x3), none]) (ov_le_s (ov_le_s (ov_le_s (ov_le_s (ov_le_n (ov_le_e)))))) ?_
    exact t198_116_44  h hk
  · rw [if_neg hc6] at h
    refine ev_iload od_198_107 rfl ?_
    refine ev_goto (t := 116) od_198_109 (by decide) ?_
    refine ev_fg (lv0 := [some (.ref 42), some (.int x1), some (.int x2), some (.int x3), none]) (ov_le_s (ov_le_s (ov_le_s (ov_le_s (ov_le_n (ov_le_e)))))) ?_
    exact t198_116_44  h hk
def b198_44 (x1 : Int32) (x2 : Int32) (x3 : Int32) (S : ov_S) : Option ((Int32 × ov_S) ⊕ (ov_S)) :=
  (if (18 : Int32) ≤ x3 then some (.inr S) else ov_ck (ov_ibb x3 18) ((if (S 63 (x3).toNatClampNeg) = x2 then ov_ck (ov_ibb ((0 : Int32) + x1) 12) ((f199 (ov_up S 56 (((0 : Int32) + x1)).toNatClampNeg x3) x1).bind fun y5 => (if y5 ≤ ((ov_up S 56 (((0 : Int32) + x1)).toNatClampNeg x3) 42 37) then f198_94_44 (ov_up S 56 (((0 : Int32) + x1)).toNatClampNeg x3) x1 x2 x3 y5 ((ov_up S 56 (((0 : Int32) + x1)).toNatClampNeg x3) 42 36) else f198_94_44 (ov_up S 56 (((0 : Int32) + x1)).toNatClampNeg x3) x1 x2 x3 y5 x3)) else f198_119_44 S x1 x2 x3)))
theorem bt198_44 {L : Nat} {S : ov_S} {G : ov_L2} {x1 : Int32} {x2 : Int32} {x3 : Int32} {P : Option Value → ov_S → ov_L2 → Prop}  {out : (Int32 × ov_S) ⊕ (ov_S)} (h : b198_44 x1 x2 x3 S = some out) (hk : ov_sm (σ := Int32 × ov_S) (ε := (ov_S)) (fun s => ov_J L 5 198 44 [some (.ref 42), some (.int x1), some (.int x2), some (.int s.1), none] [] s.2 G P) (fun e => ov_J L 5 198 125 [some (.ref 42), some (.int x1), some (.int x2), none, none] [] e G P) out) : ov_J L 5 198 44 [some (.ref 42), some (.int x1), some (.int x2), some (.int x3), none] [] S G P := by
  unfold b198_44 at h
  refine ev_iload_n od_198_44 rfl ?_
  refine ev_bipush (v := (18 : Int32)) od_198_45 (by decide) ?_
  refine ev_icmp_ge (t := 125) od_198_47 (by decide) (fun hc9 => ?_) (fun hc9 => ?_)
  · rw [if_pos hc9] at h
    cases h
    refine ev_fg (lv0 := [some (.ref 42), some (.int x1), some (.int x2), none, none]) (ov_le_s (ov_le_s (ov_le_s (ov_le_n (ov_le_n (ov_le_e)))))) ?_
    exact hk
  · rw [if_neg hc9] at h
    refine ev_aload_n od_198_50 rfl ?_
    refine ev_gf (v := .ref 63) og_198_51 oO_42 rfl ?_
    refine ev_iload_n od_198_54 rfl ?_
    obtain ⟨bq3, h⟩ := ov_ck_ok h
    refine ev_iald od_198_55 oA_63 (ov_ibk bq3) ?_
    refine ev_iload_n od_198_56 rfl ?_
    refine ev_icmp_ne (t := 119) od_198_57 (by decide) (fun hc8 => ?_) (fun hc8 => ?_)
    · rw [if_neg hc8] at h
      exact t198_119_44  h hk
    · rw [if_pos hc8] at h
      refine ev_aload_n od_198_60 rfl ?_
      refine ev_gf (v := .ref 56) og_198_61 oO_42 rfl ?_
      refine ev_iconst (v := (0 : Int32)) od_198_64 (by decide) ?_
      refine ev_iload_n od_198_65 rfl ?_
      refine ev_iadd od_198_66 ?_
      refine ev_iload_n od_198_67 rfl ?_
      obtain ⟨bq4, h⟩ := ov_ck_ok h
      refine ev_iast od_198_68 oA_56 (ov_ibk bq4) ?_
      refine ev_aload_n od_198_69 rfl ?_
      refine ev_iload_n od_198_70 rfl ?_
      obtain ⟨y5, hy5, h⟩ := ov_bd h
      try dsimp only at h
      refine ev_cvi (y := 199) (n := 1) (a := 42) (c := 8) (as := [.int x1]) (rest := []) (dc := 5) oc_198_71 rfl rfl rfl oO_42 rfl rfl rfl rfl (by decide) (R199  hy5) ?_
      refine ev_istore (lv1 := [some (.ref 42), some (.int x1), some (.int x2), some (.int x3), some (.int y5)]) od_198_74 rfl rfl ?_
      refine ev_aload_n od_198_76 rfl ?_
      refine ev_iload od_198_77 rfl ?_
      refine ev_aload_n od_198_79 rfl ?_
      refine ev_gf (v := .int ((ov_up S 56 (((0 : Int32) + x1)).toNatClampNeg x3) 42 37)) og_198_80 oO_42 rfl ?_
      refine ev_icmp_le (t := 90) od_198_83 (by decide) (fun hc7 => ?_) (fun hc7 => ?_)
      · rw [if_pos hc7] at h
        refine ev_aload_n od_198_90 rfl ?_
        refine ev_gf (v := .int ((ov_up S 56 (((0 : Int32) + x1)).toNatClampNeg x3) 42 36)) og_198_91 oO_42 rfl ?_
        exact t198_94_44  h hk
      · rw [if_neg hc7] at h
        refine ev_iload_n od_198_86 rfl ?_
        refine ev_goto (t := 94) od_198_87 (by decide) ?_
        exact t198_94_44  h hk
def b198_36 (x1 : Int32) (x2 : Int32) (S : ov_S) : Option ((Int32 × ov_S) ⊕ (ov_S)) :=
  (if (18 : Int32) ≤ x2 then some (.inr S) else ((ov_lp (fun s => b198_44 x1 x2 s.1 s.2) 2000 ((0 : Int32), S)).bind fun e10 => some (.inl ((x2 + (1 : Int32)), e10))))
theorem bt198_36 {L : Nat} {S : ov_S} {G : ov_L2} {x1 : Int32} {x2 : Int32} {P : Option Value → ov_S → ov_L2 → Prop}  {out : (Int32 × ov_S) ⊕ (ov_S)} (h : b198_36 x1 x2 S = some out) (hk : ov_sm (σ := Int32 × ov_S) (ε := (ov_S)) (fun s => ov_J L 5 198 36 [some (.ref 42), some (.int x1), some (.int s.1), none, none] [] s.2 G P) (fun e => ov_J L 5 198 131 [none, none, none, none, none] [] e G P) out) : ov_J L 5 198 36 [some (.ref 42), some (.int x1), some (.int x2), none, none] [] S G P := by
  unfold b198_36 at h
  refine ev_iload_n od_198_36 rfl ?_
  refine ev_bipush (v := (18 : Int32)) od_198_37 (by decide) ?_
  refine ev_icmp_ge (t := 131) od_198_39 (by decide) (fun hc11 => ?_) (fun hc11 => ?_)
  · rw [if_pos hc11] at h
    cases h
    refine ev_fg (lv0 := [none, none, none, none, none]) (ov_le_n (ov_le_n (ov_le_n (ov_le_n (ov_le_n (ov_le_e)))))) ?_
    exact hk
  · rw [if_neg hc11] at h
    refine ev_iconst (v := (0 : Int32)) od_198_42 (by decide) ?_
    refine ev_istore_n (lv1 := [some (.ref 42), some (.int x1), some (.int x2), some (.int (0 : Int32)), none]) od_198_43 rfl rfl ?_
    obtain ⟨e10, he10, h⟩ := ov_bd h
    try dsimp only at h
    refine ov_lp_S (body := (fun s => b198_44 x1 x2 s.1 s.2)) (head := (fun s => ov_J L 5 198 44 [some (.ref 42), some (.int x1), some (.int x2), some (.int s.1), none] [] s.2 G P)) (exit := (fun e => ov_J L 5 198 125 [some (.ref 42), some (.int x1), some (.int x2), none, none] [] e G P)) (fun s r hb hk => bt198_44  hb hk) 2000 ((0 : Int32), S) e10 he10 ?_
    show ov_J L 5 198 125 [some (.ref 42), some (.int x1), some (.int x2), none, none] [] e10 G P
    refine ev_iinc (v := (x2 + (1 : Int32))) (lv1 := [some (.ref 42), some (.int x1), some (.int (x2 + (1 : Int32))), none, none]) od_198_125 rfl rfl rfl ?_
    refine ev_goto (t := 36) od_198_128 (by decide) ?_
    cases h
    exact hk
def f198 (S : ov_S) (x1 : Int32) : Option (ov_S) :=
  (f158 55 56 S (12 : Int32)).bind fun y1 => (f178 55 y1 x1).bind fun y2 => ((ov_lp (fun s => b198_36 x1 s.1 s.2) 2000 ((0 : Int32), (ov_up (ov_up y2 42 36 (-9 : Int32)) 42 37 (-9 : Int32)))).bind fun e12 => some e12)
theorem t198 {L : Nat} {S : ov_S} {G : ov_L2} {x1 : Int32} {P : Option Value → ov_S → ov_L2 → Prop}  {out : ov_S} (h : f198 S x1 = some out) (hP : P none out G) : ov_J L 5 198 0 [some (.ref 42), some (.int x1), none, none, none] [] S G P := by
  unfold f198 at h
  refine ev_aload_n od_198_0 rfl ?_
  refine ev_gf (v := .ref 55) og_198_1 oO_42 rfl ?_
  refine ev_aload_n od_198_4 rfl ?_
  refine ev_gf (v := .ref 56) og_198_5 oO_42 rfl ?_
  refine ev_bipush (v := (12 : Int32)) od_198_8 (by decide) ?_
  obtain ⟨y1, hy1, h⟩ := ov_bd h
  try dsimp only at h
  refine ev_csv (y := 158) (n := 3) (as := [.ref 55, .ref 56, .int (12 : Int32)]) (rest := []) (dc := 1) oc_198_10 rfl rfl rfl rfl rfl (by decide) (R158 oA_55 oA_56 hy1) ?_
  refine ev_aload_n od_198_13 rfl ?_
  refine ev_aload_n od_198_14 rfl ?_
  refine ev_gf (v := .ref 55) og_198_15 oO_42 rfl ?_
  refine ev_iload_n od_198_18 rfl ?_
  obtain ⟨y2, hy2, h⟩ := ov_bd h
  try dsimp only at h
  refine ev_cvv (y := 178) (n := 2) (a := 42) (c := 8) (as := [.ref 55, .int x1]) (rest := []) (dc := 3) oc_198_19 rfl rfl rfl oO_42 rfl rfl rfl rfl (by decide) (R178 oA_55 hy2) ?_
  refine ev_aload_n od_198_22 rfl ?_
  refine ev_bipush (v := (-9 : Int32)) od_198_23 (by decide) ?_
  refine ev_pf op_198_25 oO_42 rfl rfl ?_
  refine ev_aload_n od_198_28 rfl ?_
  refine ev_bipush (v := (-9 : Int32)) od_198_29 (by decide) ?_
  refine ev_pf op_198_31 oO_42 rfl rfl ?_
  refine ev_iconst (v := (0 : Int32)) od_198_34 (by decide) ?_
  refine ev_istore_n (lv1 := [some (.ref 42), some (.int x1), some (.int (0 : Int32)), none, none]) od_198_35 rfl rfl ?_
  obtain ⟨e12, he12, h⟩ := ov_bd h
  try dsimp only at h
  refine ov_lp_S (body := (fun s => b198_36 x1 s.1 s.2)) (head := (fun s => ov_J L 5 198 36 [some (.ref 42), some (.int x1), some (.int s.1), none, none] [] s.2 G P)) (exit := (fun e => ov_J L 5 198 131 [none, none, none, none, none] [] e G P)) (fun s r hb hk => bt198_36  hb hk) 2000 ((0 : Int32), (ov_up (ov_up y2 42 36 (-9 : Int32)) 42 37 (-9 : Int32))) e12 he12 ?_
  show ov_J L 5 198 131 [none, none, none, none, none] [] e12 G P
  cases h
  exact ev_vret od_198_131 rfl hP
theorem R198 {L : Nat} {S : ov_S} {G : ov_L2} {x1 : Int32}  {out : ov_S} (h : f198 S x1 = some out) : ov_R L 6 198 [.ref 42, .int x1] S G none out G :=
  ov_Rof (t198  h ⟨rfl, rfl, rfl⟩)
-- 200 OEModel.comes
def f200 (S : ov_S) (x1 : Int32) (x2 : Int32) : Option (Int32 × ov_S) :=
  (f175 (ov_up S 42 0 (0 : Int32)) x1).bind fun y1 => (if y1 = 0 then (f172 (ov_up S 42 0 (0 : Int32)) x2).bind fun y2 => (if y2 = 0 then ov_ck (ov_ibb ((0 : Int32) + x1) 12) ((if ((ov_up S 42 0 (0 : Int32)) 55 (((0 : Int32) + x1)).toNatClampNeg) = (-9 : Int32) then (f158 55 56 (ov_up S 42 0 (0 : Int32)) (12 : Int32)).bind fun y4 => (f201 y4 x1 x2).bind fun y5 => (if y5.1 = (-9 : Int32) then some ((-9 : Int32), y5.2) else ov_ck (ov_ibb ((0 : Int32) + x1) 12) (some ((y5.2 56 (((0 : Int32) + x1)).toNatClampNeg), y5.2))) else some ((-3 : Int32), (ov_up S 42 0 (0 : Int32))))) else some ((-1 : Int32), (ov_up S 42 0 (0 : Int32)))) else some ((-1 : Int32), (ov_up S 42 0 (0 : Int32))))
theorem t200 {L : Nat} {S : ov_S} {G : ov_L2} {x1 : Int32} {x2 : Int32} {P : Option Value → ov_S → ov_L2 → Prop}  {out : Int32 × ov_S} (h : f200 S x1 x2 = some out) (hP : P (some (.int out.1)) out.2 G) : ov_J L 5 200 0 [some (.ref 42), some (.int x1), some (.int x2)] [] S G P := by
  unfold f200 at h
  refine ev_aload_n od_200_0 rfl ?_
  refine ev_iconst (v := (0 : Int32)) od_200_1 (by decide) ?_
  refine ev_pf op_200_2 oO_42 rfl rfl ?_
  refine ev_aload_n od_200_5 rfl ?_
  refine ev_iload_n od_200_6 rfl ?_
  obtain ⟨y1, hy1, h⟩ := ov_bd h
  try dsimp only at h
  refine ev_cvi (y := 175) (n := 1) (a := 42) (c := 8) (as := [.int x1]) (rest := []) (dc := 2) oc_200_7 rfl rfl rfl oO_42 rfl rfl rfl rfl (by decide) (R175  hy1) ?_
  refine ev_if_ne (t := 21) od_200_10 (by decide) (fun hc10 => ?_) (fun hc10 => ?_)
  · rw [if_neg hc10] at h
    refine ev_iconst (v := (-1 : Int32)) od_200_21 (by decide) ?_
    cases h
    exact ev_iret od_200_22 rfl hP
  · rw [if_pos hc10] at h
    refine ev_aload_n od_200_13 rfl ?_
    refine ev_iload_n od_200_14 rfl ?_
    obtain ⟨y2, hy2, h⟩ := ov_bd h
    try dsimp only at h
    refine ev_cvi (y := 172) (n := 1) (a := 42) (c := 8) (as := [.int x2]) (rest := []) (dc := 2) oc_200_15 rfl rfl rfl oO_42 rfl rfl rfl rfl (by decide) (R172  hy2) ?_
    refine ev_if_eq (t := 23) od_200_18 (by decide) (fun hc9 => ?_) (fun hc9 => ?_)
    · rw [if_pos hc9] at h
      refine ev_aload_n od_200_23 rfl ?_
      refine ev_gf (v := .ref 55) og_200_24 oO_42 rfl ?_
      refine ev_iconst (v := (0 : Int32)) od_200_27 (by decide) ?_
      refine ev_iload_n od_200_28 rfl ?_
      refine ev_iadd od_200_29 ?_
      obtain ⟨bq3, h⟩ := ov_ck_ok h
      refine ev_iald od_200_30 oA_55 (ov_ibk bq3) ?_
      refine ev_bipush (v := (-9 : Int32)) od_200_31 (by decide) ?_
      refine ev_icmp_eq (t := 39) od_200_33 (by decide) (fun hc8 => ?_) (fun hc8 => ?_)
      · rw [if_pos hc8] at h
        refine ev_aload_n od_200_39 rfl ?_
        refine ev_gf (v := .ref 55) og_200_40 oO_42 rfl ?_
        refine ev_aload_n od_200_43 rfl ?_
        refine ev_gf (v := .ref 56) og_200_44 oO_42 rfl ?_
        refine ev_bipush (v := (12 : Int32)) od_200_47 (by decide) ?_
        obtain ⟨y4, hy4, h⟩ := ov_bd h
        try dsimp only at h
        refine ev_csv (y := 158) (n := 3) (as := [.ref 55, .ref 56, .int (12 : Int32)]) (rest := []) (dc := 1) oc_200_49 rfl rfl rfl rfl rfl (by decide) (R158 oA_55 oA_56 hy4) ?_
        refine ev_aload_n od_200_52 rfl ?_
        refine ev_iload_n od_200_53 rfl ?_
        refine ev_iload_n od_200_54 rfl ?_
        obtain ⟨y5, hy5, h⟩ := ov_bd h
        try dsimp only at h
        refine ev_cvi (y := 201) (n := 2) (a := 42) (c := 8) (as := [.int x1, .int x2]) (rest := []) (dc := 5) oc_200_55 rfl rfl rfl oO_42 rfl rfl rfl rfl (by decide) (R201  hy5) ?_
        refine ev_bipush (v := (-9 : Int32)) od_200_58 (by decide) ?_
        refine ev_icmp_ne (t := 68) od_200_60 (by decide) (fun hc7 => ?_) (fun hc7 => ?_)
        · rw [if_neg hc7] at h
          refine ev_aload_n od_200_68 rfl ?_
          refine ev_gf (v := .ref 56) og_200_69 oO_42 rfl ?_
          refine ev_iconst (v := (0 : Int32)) od_200_72 (by decide) ?_
          refine ev_iload_n od_200_73 rfl ?_
          refine ev_iadd od_200_74 ?_
          obtain ⟨bq6, h⟩ := ov_ck_ok h
          refine ev_iald od_200_75 oA_56 (ov_ibk bq6) ?_
          cases h
          exact ev_iret od_200_76 rfl hP
        · rw [if_pos hc7] at h
          refine ev_bipush (v := (-9 : Int32)) od_200_63 (by decide) ?_
          refine ev_goto (t := 76) od_200_65 (by decide) ?_
          cases h
          exact ev_iret od_200_76 rfl hP
      · rw [if_neg hc8] at h
        refine ev_bipush (v := (-3 : Int32)) od_200_36 (by decide) ?_
        cases h
        exact ev_iret od_200_38 rfl hP
    · rw [if_neg hc9] at h
      refine ev_iconst (v := (-1 : Int32)) od_200_21 (by decide) ?_
      cases h
      exact ev_iret od_200_22 rfl hP
theorem R200 {L : Nat} {S : ov_S} {G : ov_L2} {x1 : Int32} {x2 : Int32}  {out : Int32 × ov_S} (h : f200 S x1 x2 = some out) : ov_R L 6 200 [.ref 42, .int x1, .int x2] S G (some (.int out.1)) out.2 G :=
  ov_Rof (t200  h ⟨rfl, rfl, rfl⟩)
-- 204 OEModel.comeAnyhow
def f204_32_4 (S : ov_S) (x1 : Int32) (x3 : Int32) (s0 : Int32) : Option ((Int32 × Int32 × ov_S) ⊕ (ov_S)) :=
  some (.inl (s0, (x3 + (1 : Int32)), S))
theorem t204_32_4 {L : Nat} {S : ov_S} {G : ov_L2} {x1 : Int32} {x3 : Int32} {s0 : Int32} {P : Option Value → ov_S → ov_L2 → Prop}  {out : (Int32 × Int32 × ov_S) ⊕ (ov_S)} (h : f204_32_4 S x1 x3 s0 = some out) (hk : ov_sm (σ := Int32 × Int32 × ov_S) (ε := (ov_S)) (fun s => ov_J L 5 204 4 [some (.ref 42), some (.int x1), some (.int s.1), some (.int s.2.1)] [] s.2.2 G P) (fun e => ov_J L 5 204 39 [none, none, none, none] [] e G P) out) : ov_J L 5 204 32 [some (.ref 42), some (.int x1), none, some (.int x3)] [.int s0] S G P := by
  unfold f204_32_4 at h
  refine ev_istore_n (lv1 := [some (.ref 42), some (.int x1), some (.int s0), some (.int x3)]) od_204_32 rfl rfl ?_
  refine ev_iinc (v := (x3 + (1 : Int32))) (lv1 := [some (.ref 42), some (.int x1), some (.int s0), some (.int (x3 + (1 : Int32)))]) od_204_33 rfl rfl rfl ?_
  refine ev_goto (t := 4) od_204_36 (by decide) ?_
  cases h
  exact hk
def b204_4 (x1 : Int32) (x2 : Int32) (x3 : Int32) (S : ov_S) : Option ((Int32 × Int32 × ov_S) ⊕ (ov_S)) :=
  (if (S 42 4) ≤ x3 then some (.inr S) else (if x2 = 0 then (f201 S x1 x3).bind fun y1 => (if y1.1 = (-9 : Int32) then f204_32_4 y1.2 x1 x3 (0 : Int32) else f204_32_4 y1.2 x1 x3 (1 : Int32)) else some (.inr S)))
theorem bt204_4 {L : Nat} {S : ov_S} {G : ov_L2} {x1 : Int32} {x2 : Int32} {x3 : Int32} {P : Option Value → ov_S → ov_L2 → Prop}  {out : (Int32 × Int32 × ov_S) ⊕ (ov_S)} (h : b204_4 x1 x2 x3 S = some out) (hk : ov_sm (σ := Int32 × Int32 × ov_S) (ε := (ov_S)) (fun s => ov_J L 5 204 4 [some (.ref 42), some (.int x1), some (.int s.1), some (.int s.2.1)] [] s.2.2 G P) (fun e => ov_J L 5 204 39 [none, none, none, none] [] e G P) out) : ov_J L 5 204 4 [some (.ref 42), some (.int x1), some (.int x2), some (.int x3)] [] S G P := by
  unfold b204_4 at h
  refine ev_iload_n od_204_4 rfl ?_
  refine ev_aload_n od_204_5 rfl ?_
  refine ev_gf (v := .int (S 42 4)) og_204_6 oO_42 rfl ?_
  refine ev_icmp_ge (t := 39) od_204_9 (by decide) (fun hc4 => ?_) (fun hc4 => ?_)
  · rw [if_pos hc4] at h
    cases h
    refine ev_fg (lv0 := [none, none, none, none]) (ov_le_n (ov_le_n (ov_le_n (ov_le_n (ov_le_e))))) ?_
    exact hk
  · rw [if_neg hc4] at h
    refine ev_iload_n od_204_12 rfl ?_
    refine ev_if_ne (t := 39) od_204_13 (by decide) (fun hc3 => ?_) (fun hc3 => ?_)
    · rw [if_neg hc3] at h
      cases h
      refine ev_fg (lv0 := [none, none, none, none]) (ov_le_n (ov_le_n (ov_le_n (ov_le_n (ov_le_e))))) ?_
      exact hk
    · rw [if_pos hc3] at h
      refine ev_aload_n od_204_16 rfl ?_
      refine ev_iload_n od_204_17 rfl ?_
      refine ev_iload_n od_204_18 rfl ?_
      obtain ⟨y1, hy1, h⟩ := ov_bd h
      try dsimp only at h
      refine ev_cvi (y := 201) (n := 2) (a := 42) (c := 8) (as := [.int x1, .int x3]) (rest := []) (dc := 5) oc_204_19 rfl rfl rfl oO_42 rfl rfl rfl rfl (by decide) (R201  hy1) ?_
      refine ev_bipush (v := (-9 : Int32)) od_204_22 (by decide) ?_
      refine ev_icmp_eq (t := 31) od_204_24 (by decide) (fun hc2 => ?_) (fun hc2 => ?_)
      · rw [if_pos hc2] at h
        refine ev_iconst (v := (0 : Int32)) od_204_31 (by decide) ?_
        refine ev_fg (lv0 := [some (.ref 42), some (.int x1), none, some (.int x3)]) (ov_le_s (ov_le_s (ov_le_n (ov_le_s (ov_le_e))))) ?_
        exact t204_32_4  h hk
      · rw [if_neg hc2] at h
        refine ev_iconst (v := (1 : Int32)) od_204_27 (by decide) ?_
        refine ev_goto (t := 32) od_204_28 (by decide) ?_
        refine ev_fg (lv0 := [some (.ref 42), some (.int x1), none, some (.int x3)]) (ov_le_s (ov_le_s (ov_le_n (ov_le_s (ov_le_e))))) ?_
        exact t204_32_4  h hk
def f204 (S : ov_S) (x1 : Int32) : Option (ov_S) :=
  ((ov_lp (fun s => b204_4 x1 s.1 s.2.1 s.2.2) 2000 ((0 : Int32), (0 : Int32), S)).bind fun e5 => some e5)
theorem t204 {L : Nat} {S : ov_S} {G : ov_L2} {x1 : Int32} {P : Option Value → ov_S → ov_L2 → Prop}  {out : ov_S} (h : f204 S x1 = some out) (hP : P none out G) : ov_J L 5 204 0 [some (.ref 42), some (.int x1), none, none] [] S G P := by
  unfold f204 at h
  refine ev_iconst (v := (0 : Int32)) od_204_0 (by decide) ?_
  refine ev_istore_n (lv1 := [some (.ref 42), some (.int x1), some (.int (0 : Int32)), none]) od_204_1 rfl rfl ?_
  refine ev_iconst (v := (0 : Int32)) od_204_2 (by decide) ?_
  refine ev_istore_n (lv1 := [some (.ref 42), some (.int x1), some (.int (0 : Int32)), some (.int (0 : Int32))]) od_204_3 rfl rfl ?_
  obtain ⟨e5, he5, h⟩ := ov_bd h
  try dsimp only at h
  refine ov_lp_S (body := (fun s => b204_4 x1 s.1 s.2.1 s.2.2)) (head := (fun s => ov_J L 5 204 4 [some (.ref 42), some (.int x1), some (.int s.1), some (.int s.2.1)] [] s.2.2 G P)) (exit := (fun e => ov_J L 5 204 39 [none, none, none, none] [] e G P)) (fun s r hb hk => bt204_4  hb hk) 2000 ((0 : Int32), (0 : Int32), S) e5 he5 ?_
  show ov_J L 5 204 39 [none, none, none, none] [] e5 G P
  cases h
  exact ev_vret od_204_39 rfl hP
theorem R204 {L : Nat} {S : ov_S} {G : ov_L2} {x1 : Int32}  {out : ov_S} (h : f204 S x1 = some out) : ov_R L 6 204 [.ref 42, .int x1] S G none out G :=
  ov_Rof (t204  h ⟨rfl, rfl, rfl⟩)
-- 207 OEModel.leftOut
def f207_134_32 (S : ov_S) (x1 : Int32) (x2 : Int32) (s0 : Int32) : Option ((Int32 × ov_S) ⊕ (ov_S)) :=
  some (.inl ((x2 + (1 : Int32)), (ov_up S 42 37 s0)))
theorem t207_134_32 {L : Nat} {S : ov_S} {G : ov_L2} {x1 : Int32} {x2 : Int32} {s0 : Int32} {P : Option Value → ov_S → ov_L2 → Prop}  {out : (Int32 × ov_S) ⊕ (ov_S)} (h : f207_134_32 S x1 x2 s0 = some out) (hk : ov_sm (σ := Int32 × ov_S) (ε := (ov_S)) (fun s => ov_J L 5 207 32 [some (.ref 42), some (.int x1), some (.int s.1), none, none] [] s.2 G P) (fun e => ov_J L 5 207 143 [some (.ref 42), some (.int x1), none, none, none] [] e G P) out) : ov_J L 5 207 134 [some (.ref 42), some (.int x1), some (.int x2), none, none] [.int s0, .ref 42] S G P := by
  unfold f207_134_32 at h
  refine ev_pf op_207_134 oO_42 rfl rfl ?_
  refine ev_iinc (v := (x2 + (1 : Int32))) (lv1 := [some (.ref 42), some (.int x1), some (.int (x2 + (1 : Int32))), none, none]) od_207_137 rfl rfl rfl ?_
  refine ev_goto (t := 32) od_207_140 (by decide) ?_
  cases h
  exact hk
def f207_117_32 (S : ov_S) (x1 : Int32) (x2 : Int32) (x3 : Int32) (x4 : Int32) (s0 : Int32) : Option ((Int32 × ov_S) ⊕ (ov_S)) :=
  (if x4 = 0 then f207_134_32 (ov_up S 42 36 s0) x1 x2 ((ov_up S 42 36 s0) 42 37) else f207_134_32 (ov_up S 42 36 s0) x1 x2 x3)
theorem t207_117_32 {L : Nat} {S : ov_S} {G : ov_L2} {x1 : Int32} {x2 : Int32} {x3 : Int32} {x4 : Int32} {s0 : Int32} {P : Option Value → ov_S → ov_L2 → Prop}  {out : (Int32 × ov_S) ⊕ (ov_S)} (h : f207_117_32 S x1 x2 x3 x4 s0 = some out) (hk : ov_sm (σ := Int32 × ov_S) (ε := (ov_S)) (fun s => ov_J L 5 207 32 [some (.ref 42), some (.int x1), some (.int s.1), none, none] [] s.2 G P) (fun e => ov_J L 5 207 143 [some (.ref 42), some (.int x1), none, none, none] [] e G P) out) : ov_J L 5 207 117 [some (.ref 42), some (.int x1), some (.int x2), some (.int x3), some (.int x4)] [.int s0, .ref 42] S G P := by
  unfold f207_117_32 at h
  refine ev_pf op_207_117 oO_42 rfl rfl ?_
  refine ev_aload_n od_207_120 rfl ?_
  refine ev_iload od_207_121 rfl ?_
  refine ev_if_eq (t := 130) od_207_123 (by decide) (fun hc7 => ?_) (fun hc7 => ?_)
  · rw [if_pos hc7] at h
    refine ev_aload_n od_207_130 rfl ?_
    refine ev_gf (v := .int ((ov_up S 42 36 s0) 42 37)) og_207_131 oO_42 rfl ?_
    refine ev_fg (lv0 := [some (.ref 42), some (.int x1), some (.int x2), none, none]) (ov_le_s (ov_le_s (ov_le_s (ov_le_n (ov_le_n (ov_le_e)))))) ?_
    exact t207_134_32  h hk
  · rw [if_neg hc7] at h
    refine ev_iload_n od_207_126 rfl ?_
    refine ev_goto (t := 134) od_207_127 (by decide) ?_
    refine ev_fg (lv0 := [some (.ref 42), some (.int x1), some (.int x2), none, none]) (ov_le_s (ov_le_s (ov_le_s (ov_le_n (ov_le_n (ov_le_e)))))) ?_
    exact t207_134_32  h hk
def f207_101_32 (S : ov_S) (x1 : Int32) (x2 : Int32) (x3 : Int32) (s0 : Int32) : Option ((Int32 × ov_S) ⊕ (ov_S)) :=
  (if s0 = 0 then f207_117_32 S x1 x2 x3 s0 (S 42 36) else f207_117_32 S x1 x2 x3 s0 x2)
theorem t207_101_32 {L : Nat} {S : ov_S} {G : ov_L2} {x1 : Int32} {x2 : Int32} {x3 : Int32} {s0 : Int32} {P : Option Value → ov_S → ov_L2 → Prop}  {out : (Int32 × ov_S) ⊕ (ov_S)} (h : f207_101_32 S x1 x2 x3 s0 = some out) (hk : ov_sm (σ := Int32 × ov_S) (ε := (ov_S)) (fun s => ov_J L 5 207 32 [some (.ref 42), some (.int x1), some (.int s.1), none, none] [] s.2 G P) (fun e => ov_J L 5 207 143 [some (.ref 42), some (.int x1), none, none, none] [] e G P) out) : ov_J L 5 207 101 [some (.ref 42), some (.int x1), some (.int x2), some (.int x3), none] [.int s0] S G P := by
  unfold f207_101_32 at h
  refine ev_istore (lv1 := [some (.ref 42), some (.int x1), some (.int x2), some (.int x3), some (.int s0)]) od_207_101 rfl rfl ?_
  refine ev_aload_n od_207_103 rfl ?_
  refine ev_iload od_207_104 rfl ?_
  refine ev_if_eq (t := 113) od_207_106 (by decide) (fun hc8 => ?_) (fun hc8 => ?_)
  · rw [if_pos hc8] at h
    refine ev_aload_n od_207_113 rfl ?_
    refine ev_gf (v := .int (S 42 36)) og_207_114 oO_42 rfl ?_
    exact t207_117_32  h hk
  · rw [if_neg hc8] at h
    refine ev_iload_n od_207_109 rfl ?_
    refine ev_goto (t := 117) od_207_110 (by decide) ?_
    exact t207_117_32  h hk
def f207_100_32 (S : ov_S) (x1 : Int32) (x2 : Int32) (x3 : Int32) : Option ((Int32 × ov_S) ⊕ (ov_S)) :=
  f207_101_32 S x1 x2 x3 (0 : Int32)
theorem t207_100_32 {L : Nat} {S : ov_S} {G : ov_L2} {x1 : Int32} {x2 : Int32} {x3 : Int32} {P : Option Value → ov_S → ov_L2 → Prop}  {out : (Int32 × ov_S) ⊕ (ov_S)} (h : f207_100_32 S x1 x2 x3 = some out) (hk : ov_sm (σ := Int32 × ov_S) (ε := (ov_S)) (fun s => ov_J L 5 207 32 [some (.ref 42), some (.int x1), some (.int s.1), none, none] [] s.2 G P) (fun e => ov_J L 5 207 143 [some (.ref 42), some (.int x1), none, none, none] [] e G P) out) : ov_J L 5 207 100 [some (.ref 42), some (.int x1), some (.int x2), some (.int x3), none] [] S G P := by
  unfold f207_100_32 at h
  refine ev_iconst (v := (0 : Int32)) od_207_100 (by decide) ?_
  exact t207_101_32  h hk
def b207_32 (x1 : Int32) (x2 : Int32) (S : ov_S) : Option ((Int32 × ov_S) ⊕ (ov_S)) :=
  (if (S 42 7) ≤ x2 then some (.inr S) else (f158 55 56 S (12 : Int32)).bind fun y2 => ov_ck (ov_ibb ((0 : Int32) + x2) 12) ((f163 56 (ov_up y2 56 (((0 : Int32) + x2)).toNatClampNeg (-9 : Int32))).bind fun y4 => (f191 y4).bind fun y5 => ov_ck (ov_ibb ((0 : Int32) + x2) 12) ((if ((ov_up y2 56 (((0 : Int32) + x2)).toNatClampNeg (-9 : Int32)) 55 (((0 : Int32) + x2)).toNatClampNeg) = (-9 : Int32) then f207_100_32 (ov_up y2 56 (((0 : Int32) + x2)).toNatClampNeg (-9 : Int32)) x1 x2 y5 else (if y5 ≤ ((ov_up y2 56 (((0 : Int32) + x2)).toNatClampNeg (-9 : Int32)) 42 37) then f207_100_32 (ov_up y2 56 (((0 : Int32) + x2)).toNatClampNeg (-9 : Int32)) x1 x2 y5 else f207_101_32 (ov_up y2 56 (((0 : Int32) + x2)).toNatClampNeg (-9 : Int32)) x1 x2 y5 (1 : Int32))))))
theorem bt207_32 {L : Nat} {S : ov_S} {G : ov_L2} {x1 : Int32} {x2 : Int32} {P : Option Value → ov_S → ov_L2 → Prop}  {out : (Int32 × ov_S) ⊕ (ov_S)} (h : b207_32 x1 x2 S = some out) (hk : ov_sm (σ := Int32 × ov_S) (ε := (ov_S)) (fun s => ov_J L 5 207 32 [some (.ref 42), some (.int x1), some (.int s.1), none, none] [] s.2 G P) (fun e => ov_J L 5 207 143 [some (.ref 42), some (.int x1), none, none, none] [] e G P) out) : ov_J L 5 207 32 [some (.ref 42), some (.int x1), some (.int x2), none, none] [] S G P := by
  unfold b207_32 at h
  refine ev_iload_n od_207_32 rfl ?_
  refine ev_aload_n od_207_33 rfl ?_
  refine ev_gf (v := .int (S 42 7)) og_207_34 oO_42 rfl ?_
  refine ev_icmp_ge (t := 143) od_207_37 (by decide) (fun hc11 => ?_) (fun hc11 => ?_)
  · rw [if_pos hc11] at h
    cases h
    refine ev_fg (lv0 := [some (.ref 42), some (.int x1), none, none, none]) (ov_le_s (ov_le_s (ov_le_n (ov_le_n (ov_le_n (ov_le_e)))))) ?_
    exact hk
  · rw [if_neg hc11] at h
    refine ev_aload_n od_207_40 rfl ?_
    refine ev_gf (v := .ref 55) og_207_41 oO_42 rfl ?_
    refine ev_aload_n od_207_44 rfl ?_
    refine ev_gf (v := .ref 56) og_207_45 oO_42 rfl ?_
    refine ev_bipush (v := (12 : Int32)) od_207_48 (by decide) ?_
    obtain ⟨y2, hy2, h⟩ := ov_bd h
    try dsimp only at h
    refine ev_csv (y := 158) (n := 3) (as := [.ref 55, .ref 56, .int (12 : Int32)]) (rest := []) (dc := 1) oc_207_50 rfl rfl rfl rfl rfl (by decide) (R158 oA_55 oA_56 hy2) ?_
    refine ev_aload_n od_207_53 rfl ?_
    refine ev_gf (v := .ref 56) og_207_54 oO_42 rfl ?_
    refine ev_iconst (v := (0 : Int32)) od_207_57 (by decide) ?_
    refine ev_iload_n od_207_58 rfl ?_
    refine ev_iadd od_207_59 ?_
    refine ev_bipush (v := (-9 : Int32)) od_207_60 (by decide) ?_
    obtain ⟨bq3, h⟩ := ov_ck_ok h
    refine ev_iast od_207_62 oA_56 (ov_ibk bq3) ?_
    refine ev_aload_n od_207_63 rfl ?_
    refine ev_aload_n od_207_64 rfl ?_
    refine ev_gf (v := .ref 56) og_207_65 oO_42 rfl ?_
    obtain ⟨y4, hy4, h⟩ := ov_bd h
    try dsimp only at h
    refine ev_cvi (y := 163) (n := 1) (a := 42) (c := 8) (as := [.ref 56]) (rest := []) (dc := 5) oc_207_68 rfl rfl rfl oO_42 rfl rfl rfl rfl (by decide) (R163 oA_56 hy4) ?_
    obtain ⟨y5, hy5, h⟩ := ov_bd h
    try dsimp only at h
    refine ev_csi (y := 191) (n := 1) (as := [.int y4]) (rest := []) (dc := 1) oc_207_71 rfl rfl rfl rfl rfl (by decide) (R191  hy5) ?_
    refine ev_istore_n (lv1 := [some (.ref 42), some (.int x1), some (.int x2), some (.int y5), none]) od_207_74 rfl rfl ?_
    refine ev_aload_n od_207_75 rfl ?_
    refine ev_gf (v := .ref 55) og_207_76 oO_42 rfl ?_
    refine ev_iconst (v := (0 : Int32)) od_207_79 (by decide) ?_
    refine ev_iload_n od_207_80 rfl ?_
    refine ev_iadd od_207_81 ?_
    obtain ⟨bq6, h⟩ := ov_ck_ok h
    refine ev_iald od_207_82 oA_55 (ov_ibk bq6) ?_
    refine ev_bipush (v := (-9 : Int32)) od_207_83 (by decide) ?_
    refine ev_icmp_eq (t := 100) od_207_85 (by decide) (fun hc10 => ?_) (fun hc10 => ?_)
    · rw [if_pos hc10] at h
      exact t207_100_32  h hk
    · rw [if_neg hc10] at h
      refine ev_iload_n od_207_88 rfl ?_
      refine ev_aload_n od_207_89 rfl ?_
      refine ev_gf (v := .int ((ov_up y2 56 (((0 : Int32) + x2)).toNatClampNeg (-9 : Int32)) 42 37)) og_207_90 oO_42 rfl ?_
      refine ev_icmp_le (t := 100) od_207_93 (by decide) (fun hc9 => ?_) (fun hc9 => ?_)
      · rw [if_pos hc9] at h
        exact t207_100_32  h hk
      · rw [if_neg hc9] at h
        refine ev_iconst (v := (1 : Int32)) od_207_96 (by decide) ?_
        refine ev_goto (t := 101) od_207_97 (by decide) ?_
        exact t207_101_32  h hk
def f207 (S : ov_S) (x1 : Int32) : Option (Int32 × ov_S) :=
  (f144 (x1).toInt64 (0 : Int64) (1 : Int64)).bind fun y1 => (if y1 = 0 then some ((-2 : Int32), (ov_up S 42 0 (0 : Int32))) else ((ov_lp (fun s => b207_32 x1 s.1 s.2) 2000 ((0 : Int32), (ov_up (ov_up (ov_up S 42 0 (0 : Int32)) 42 36 (-9 : Int32)) 42 37 (-9 : Int32)))).bind fun e12 => (if x1 = 0 then some ((e12 42 36), e12) else some ((e12 42 37), e12))))
theorem t207 {L : Nat} {S : ov_S} {G : ov_L2} {x1 : Int32} {P : Option Value → ov_S → ov_L2 → Prop}  {out : Int32 × ov_S} (h : f207 S x1 = some out) (hP : P (some (.int out.1)) out.2 G) : ov_J L 5 207 0 [some (.ref 42), some (.int x1), none, none, none] [] S G P := by
  unfold f207 at h
  refine ev_aload_n od_207_0 rfl ?_
  refine ev_iconst (v := (0 : Int32)) od_207_1 (by decide) ?_
  refine ev_pf op_207_2 oO_42 rfl rfl ?_
  refine ev_iload_n od_207_5 rfl ?_
  refine ev_i2l od_207_6 ?_
  refine ev_lconst (v := (0 : Int64)) od_207_7 (by decide) ?_
  refine ev_lconst (v := (1 : Int64)) od_207_8 (by decide) ?_
  obtain ⟨y1, hy1, h⟩ := ov_bd h
  try dsimp only at h
  refine ev_csi (y := 144) (n := 3) (as := [.long (x1).toInt64, .long (0 : Int64), .long (1 : Int64)]) (rest := []) (dc := 1) oc_207_9 rfl rfl rfl rfl rfl (by decide) (R144  hy1) ?_
  refine ev_if_ne (t := 18) od_207_12 (by decide) (fun hc14 => ?_) (fun hc14 => ?_)
  · rw [if_neg hc14] at h
    refine ev_aload_n od_207_18 rfl ?_
    refine ev_bipush (v := (-9 : Int32)) od_207_19 (by decide) ?_
    refine ev_pf op_207_21 oO_42 rfl rfl ?_
    refine ev_aload_n od_207_24 rfl ?_
    refine ev_bipush (v := (-9 : Int32)) od_207_25 (by decide) ?_
    refine ev_pf op_207_27 oO_42 rfl rfl ?_
    refine ev_iconst (v := (0 : Int32)) od_207_30 (by decide) ?_
    refine ev_istore_n (lv1 := [some (.ref 42), some (.int x1), some (.int (0 : Int32)), none, none]) od_207_31 rfl rfl ?_
    obtain ⟨e12, he12, h⟩ := ov_bd h
    try dsimp only at h
    refine ov_lp_S (body := (fun s => b207_32 x1 s.1 s.2)) (head := (fun s => ov_J L 5 207 32 [some (.ref 42), some (.int x1), some (.int s.1), none, none] [] s.2 G P)) (exit := (fun e => ov_J L 5 207 143 [some (.ref 42), some (.int x1), none, none, none] [] e G P)) (fun s r hb hk => bt207_32  hb hk) 2000 ((0 : Int32), (ov_up (ov_up (ov_up S 42 0 (0 : Int32)) 42 36 (-9 : Int32)) 42 37 (-9 : Int32))) e12 he12 ?_
    show ov_J L 5 207 143 [some (.ref 42), some (.int x1), none, none, none] [] e12 G P
    refine ev_iload_n od_207_143 rfl ?_
    refine ev_if_ne (t := 154) od_207_144 (by decide) (fun hc13 => ?_) (fun hc13 => ?_)
    · rw [if_neg hc13] at h
      refine ev_aload_n od_207_154 rfl ?_
      refine ev_gf (v := .int (e12 42 37)) og_207_155 oO_42 rfl ?_
      cases h
      exact ev_iret od_207_158 rfl hP
    · rw [if_pos hc13] at h
      refine ev_aload_n od_207_147 rfl ?_
      refine ev_gf (v := .int (e12 42 36)) og_207_148 oO_42 rfl ?_
      refine ev_goto (t := 158) od_207_151 (by decide) ?_
      cases h
      exact ev_iret od_207_158 rfl hP
  · rw [if_pos hc14] at h
    refine ev_bipush (v := (-2 : Int32)) od_207_15 (by decide) ?_
    cases h
    exact ev_iret od_207_17 rfl hP
theorem R207 {L : Nat} {S : ov_S} {G : ov_L2} {x1 : Int32}  {out : Int32 × ov_S} (h : f207 S x1 = some out) : ov_R L 6 207 [.ref 42, .int x1] S G (some (.int out.1)) out.2 G :=
  ov_Rof (t207  h ⟨rfl, rfl, rfl⟩)
-- 208 OEModel.judge
def b208_53 (x1 : Int32) (x2 : Int64) (x4 : Int32) (S : ov_S) : Option ((Int32 × ov_S) ⊕ ((ov_S) ⊕ (Int32 × ov_S))) :=
  (if x1 ≤ x4 then some (.inr (.inl S)) else (f209 (1000 : Int64) ((x1 - (1 : Int32)) - x4)).bind fun y8 => ov_ck (ov_nzl y8) ((f210 S (((x2 / y8) - (x2 / y8) / (1000 : Int64) * (1000 : Int64))).toInt32).bind fun y11 => (if y11.1 = 0 then some (.inr (.inr (x4, y11.2))) else some (.inl ((x4 + (1 : Int32)), y11.2)))))
theorem bt208_53 {L : Nat} {S : ov_S} {G : ov_L2} {x1 : Int32} {x2 : Int64} {x4 : Int32} {P : Option Value → ov_S → ov_L2 → Prop}  {out : (Int32 × ov_S) ⊕ ((ov_S) ⊕ (Int32 × ov_S))} (h : b208_53 x1 x2 x4 S = some out) (hk : ov_sm (σ := Int32 × ov_S) (ε := ((ov_S) ⊕ (Int32 × ov_S))) (fun s => ov_J L 5 208 53 [some (.ref 42), some (.int x1), some (.long x2), none, some (.int s.1)] [] s.2 G P) (ov_sm (fun e => ov_J L 5 208 94 [none, none, none, none, none] [] e G P) (fun t => P (some (.int t.1)) t.2 G)) out) : ov_J L 5 208 53 [some (.ref 42), some (.int x1), some (.long x2), none, some (.int x4)] [] S G P := by
  unfold b208_53 at h
  refine ev_iload od_208_53 rfl ?_
  refine ev_iload_n od_208_55 rfl ?_
  refine ev_icmp_ge (t := 94) od_208_56 (by decide) (fun hc13 => ?_) (fun hc13 => ?_)
  · rw [if_pos hc13] at h
    cases h
    refine ev_fg (lv0 := [none, none, none, none, none]) (ov_le_n (ov_le_n (ov_le_n (ov_le_n (ov_le_n (ov_le_e)))))) ?_
    exact hk
  · rw [if_neg hc13] at h
    refine ev_aload_n od_208_59 rfl ?_
    refine ev_lload_n od_208_60 rfl ?_
    obtain ⟨w7, hw7⟩ := ok_208_61
    refine ev_ldc2_w od_208_61 hw7 ?_
    refine ev_iload_n od_208_64 rfl ?_
    refine ev_iconst (v := (1 : Int32)) od_208_65 (by decide) ?_
    refine ev_isub od_208_66 ?_
    refine ev_iload od_208_67 rfl ?_
    refine ev_isub od_208_69 ?_
    obtain ⟨y8, hy8, h⟩ := ov_bd h
    try dsimp only at h
    refine ev_csl (y := 209) (n := 2) (as := [.long (1000 : Int64), .int ((x1 - (1 : Int32)) - x4)]) (rest := [.long x2, .ref 42]) (dc := 1) oc_208_70 rfl rfl rfl rfl rfl (by decide) (R209  hy8) ?_
    obtain ⟨bq9, h⟩ := ov_ck_ok h
    refine ev_ldiv od_208_73 (ov_nzlk bq9) ?_
    obtain ⟨w10, hw10⟩ := ok_208_74
    refine ev_ldc2_w od_208_74 hw10 ?_
    refine ev_lrem od_208_77 (by decide) ?_
    refine ev_l2i od_208_78 ?_
    obtain ⟨y11, hy11, h⟩ := ov_bd h
    try dsimp only at h
    refine ev_cvi (y := 210) (n := 1) (a := 42) (c := 8) (as := [.int (((x2 / y8) - (x2 / y8) / (1000 : Int64) * (1000 : Int64))).toInt32]) (rest := []) (dc := 5) oc_208_79 rfl rfl rfl oO_42 rfl rfl rfl rfl (by decide) (R210  hy11) ?_
    refine ev_if_ne (t := 88) od_208_82 (by decide) (fun hc12 => ?_) (fun hc12 => ?_)
    · rw [if_neg hc12] at h
      refine ev_iinc (v := (x4 + (1 : Int32))) (lv1 := [some (.ref 42), some (.int x1), some (.long x2), none, some (.int (x4 + (1 : Int32)))]) od_208_88 rfl rfl rfl ?_
      refine ev_goto (t := 53) od_208_91 (by decide) ?_
      cases h
      exact hk
    · rw [if_pos hc12] at h
      refine ev_iload od_208_85 rfl ?_
      cases h
      exact ev_iret od_208_87 rfl hk
def f208 (S : ov_S) (x1 : Int32) (x2 : Int64) : Option (Int32 × ov_S) :=
  (f144 (x1).toInt64 (1 : Int64) (4 : Int64)).bind fun y2 => (if y2 = 0 then some ((-2 : Int32), (ov_up S 42 0 (0 : Int32))) else (f209 (1000 : Int64) x1).bind fun y4 => (f144 x2 (0 : Int64) (y4 - (1 : Int64))).bind fun y5 => (if y5 = 0 then some ((-2 : Int32), (ov_up S 42 0 (0 : Int32))) else (f158 55 56 (ov_up S 42 0 (0 : Int32)) (12 : Int32)).bind fun y6 => ((ov_lp (fun s => b208_53 x1 x2 s.1 s.2) 2000 ((0 : Int32), y6)).bind fun e14 => match e14 with | .inl e15 => some ((-9 : Int32), e15) | .inr t => some t)))
theorem t208 {L : Nat} {S : ov_S} {G : ov_L2} {x1 : Int32} {x2 : Int64} {P : Option Value → ov_S → ov_L2 → Prop}  {out : Int32 × ov_S} (h : f208 S x1 x2 = some out) (hP : P (some (.int out.1)) out.2 G) : ov_J L 5 208 0 [some (.ref 42), some (.int x1), some (.long x2), none, none] [] S G P := by
  unfold f208 at h
  refine ev_aload_n od_208_0 rfl ?_
  refine ev_iconst (v := (0 : Int32)) od_208_1 (by decide) ?_
  refine ev_pf op_208_2 oO_42 rfl rfl ?_
  refine ev_iload_n od_208_5 rfl ?_
  refine ev_i2l od_208_6 ?_
  refine ev_lconst (v := (1 : Int64)) od_208_7 (by decide) ?_
  obtain ⟨w1, hw1⟩ := ok_208_8
  refine ev_ldc2_w od_208_8 hw1 ?_
  obtain ⟨y2, hy2, h⟩ := ov_bd h
  try dsimp only at h
  refine ev_csi (y := 144) (n := 3) (as := [.long (x1).toInt64, .long (1 : Int64), .long (4 : Int64)]) (rest := []) (dc := 1) oc_208_11 rfl rfl rfl rfl rfl (by decide) (R144  hy2) ?_
  refine ev_if_eq (t := 34) od_208_14 (by decide) (fun hc17 => ?_) (fun hc17 => ?_)
  · rw [if_pos hc17] at h
    refine ev_bipush (v := (-2 : Int32)) od_208_34 (by decide) ?_
    cases h
    exact ev_iret od_208_36 rfl hP
  · rw [if_neg hc17] at h
    refine ev_lload_n od_208_17 rfl ?_
    refine ev_lconst (v := (0 : Int64)) od_208_18 (by decide) ?_
    obtain ⟨w3, hw3⟩ := ok_208_19
    refine ev_ldc2_w od_208_19 hw3 ?_
    refine ev_iload_n od_208_22 rfl ?_
    obtain ⟨y4, hy4, h⟩ := ov_bd h
    try dsimp only at h
    refine ev_csl (y := 209) (n := 2) (as := [.long (1000 : Int64), .int x1]) (rest := [.long (0 : Int64), .long x2]) (dc := 1) oc_208_23 rfl rfl rfl rfl rfl (by decide) (R209  hy4) ?_
    refine ev_lconst (v := (1 : Int64)) od_208_26 (by decide) ?_
    refine ev_lsub od_208_27 ?_
    obtain ⟨y5, hy5, h⟩ := ov_bd h
    try dsimp only at h
    refine ev_csi (y := 144) (n := 3) (as := [.long x2, .long (0 : Int64), .long (y4 - (1 : Int64))]) (rest := []) (dc := 1) oc_208_28 rfl rfl rfl rfl rfl (by decide) (R144  hy5) ?_
    refine ev_if_ne (t := 37) od_208_31 (by decide) (fun hc16 => ?_) (fun hc16 => ?_)
    · rw [if_neg hc16] at h
      refine ev_aload_n od_208_37 rfl ?_
      refine ev_gf (v := .ref 55) og_208_38 oO_42 rfl ?_
      refine ev_aload_n od_208_41 rfl ?_
      refine ev_gf (v := .ref 56) og_208_42 oO_42 rfl ?_
      refine ev_bipush (v := (12 : Int32)) od_208_45 (by decide) ?_
      obtain ⟨y6, hy6, h⟩ := ov_bd h
      try dsimp only at h
      refine ev_csv (y := 158) (n := 3) (as := [.ref 55, .ref 56, .int (12 : Int32)]) (rest := []) (dc := 1) oc_208_47 rfl rfl rfl rfl rfl (by decide) (R158 oA_55 oA_56 hy6) ?_
      refine ev_iconst (v := (0 : Int32)) od_208_50 (by decide) ?_
      refine ev_istore (lv1 := [some (.ref 42), some (.int x1), some (.long x2), none, some (.int (0 : Int32))]) od_208_51 rfl rfl ?_
      obtain ⟨e14, he14, h⟩ := ov_bd h
      try dsimp only at h
      refine ov_lp_S (body := (fun s => b208_53 x1 x2 s.1 s.2)) (head := (fun s => ov_J L 5 208 53 [some (.ref 42), some (.int x1), some (.long x2), none, some (.int s.1)] [] s.2 G P)) (exit := (ov_sm (fun e => ov_J L 5 208 94 [none, none, none, none, none] [] e G P) (fun t => P (some (.int t.1)) t.2 G))) (fun s r hb hk => bt208_53  hb hk) 2000 ((0 : Int32), y6) e14 he14 ?_
      rcases e14 with e15 | t
      · try dsimp only at h
        show ov_J L 5 208 94 [none, none, none, none, none] [] e15 G P
        refine ev_bipush (v := (-9 : Int32)) od_208_94 (by decide) ?_
        cases h
        exact ev_iret od_208_96 rfl hP
      · cases h
        exact hP
    · rw [if_pos hc16] at h
      refine ev_bipush (v := (-2 : Int32)) od_208_34 (by decide) ?_
      cases h
      exact ev_iret od_208_36 rfl hP
theorem R208 {L : Nat} {S : ov_S} {G : ov_L2} {x1 : Int32} {x2 : Int64}  {out : Int32 × ov_S} (h : f208 S x1 x2 = some out) : ov_R L 6 208 [.ref 42, .int x1, .long x2] S G (some (.int out.1)) out.2 G :=
  ov_Rof (t208  h ⟨rfl, rfl, rfl⟩)
-- 211 OEModel.share
def f211_83_43 (S : ov_S) (x1 : Int32) (x2 : Int32) (x3 : Int32) (x4 : Int32) (s0 : Int32) (s1 : Int32) : Option ((Int32 × ov_S) ⊕ (ov_S)) :=
  ov_ck (ov_ibb s1 12) (some (.inl ((x4 + (1 : Int32)), (ov_up S 56 (s1).toNatClampNeg s0))))
theorem t211_83_43 {L : Nat} {S : ov_S} {G : ov_L2} {x1 : Int32} {x2 : Int32} {x3 : Int32} {x4 : Int32} {s0 : Int32} {s1 : Int32} {P : Option Value → ov_S → ov_L2 → Prop}  {out : (Int32 × ov_S) ⊕ (ov_S)} (h : f211_83_43 S x1 x2 x3 x4 s0 s1 = some out) (hk : ov_sm (σ := Int32 × ov_S) (ε := (ov_S)) (fun s => ov_J L 5 211 43 [some (.ref 42), some (.int x1), some (.int x2), some (.int x3), some (.int s.1), none] [] s.2 G P) (fun e => ov_J L 5 211 90 [some (.ref 42), some (.int x1), some (.int x2), some (.int x3), none, none] [] e G P) out) : ov_J L 5 211 83 [some (.ref 42), some (.int x1), some (.int x2), some (.int x3), some (.int x4), none] [.int s0, .int s1, .ref 56] S G P := by
  unfold f211_83_43 at h
  obtain ⟨bq4, h⟩ := ov_ck_ok h
  refine ev_iast od_211_83 oA_56 (ov_ibk bq4) ?_
  refine ev_iinc (v := (x4 + (1 : Int32))) (lv1 := [some (.ref 42), some (.int x1), some (.int x2), some (.int x3), some (.int (x4 + (1 : Int32))), none]) od_211_84 rfl rfl rfl ?_
  refine ev_goto (t := 43) od_211_87 (by decide) ?_
  cases h
  exact hk
def b211_43 (x1 : Int32) (x2 : Int32) (x3 : Int32) (x4 : Int32) (S : ov_S) : Option ((Int32 × ov_S) ⊕ (ov_S)) :=
  (if (S 42 7) ≤ x4 then some (.inr S) else (f152 x3 x4).bind fun y3 => (if y3 = 0 then f211_83_43 S x1 x2 x3 x4 (-9 : Int32) ((0 : Int32) + x4) else ov_ck (ov_ibb ((0 : Int32) + x4) 12) (f211_83_43 S x1 x2 x3 x4 (S 55 (((0 : Int32) + x4)).toNatClampNeg) ((0 : Int32) + x4))))
theorem bt211_43 {L : Nat} {S : ov_S} {G : ov_L2} {x1 : Int32} {x2 : Int32} {x3 : Int32} {x4 : Int32} {P : Option Value → ov_S → ov_L2 → Prop}  {out : (Int32 × ov_S) ⊕ (ov_S)} (h : b211_43 x1 x2 x3 x4 S = some out) (hk : ov_sm (σ := Int32 × ov_S) (ε := (ov_S)) (fun s => ov_J L 5 211 43 [some (.ref 42), some (.int x1), some (.int x2), some (.int x3), some (.int s.1), none] [] s.2 G P) (fun e => ov_J L 5 211 90 [some (.ref 42), some (.int x1), some (.int x2), some (.int x3), none, none] [] e G P) out) : ov_J L 5 211 43 [some (.ref 42), some (.int x1), some (.int x2), some (.int x3), some (.int x4), none] [] S G P := by
  unfold b211_43 at h
  refine ev_iload od_211_43 rfl ?_
  refine ev_aload_n od_211_45 rfl ?_
  refine ev_gf (v := .int (S 42 7)) og_211_46 oO_42 rfl ?_
  refine ev_icmp_ge (t := 90) od_211_49 (by decide) (fun hc7 => ?_) (fun hc7 => ?_)
  · rw [if_pos hc7] at h
    cases h
    refine ev_fg (lv0 := [some (.ref 42), some (.int x1), some (.int x2), some (.int x3), none, none]) (ov_le_s (ov_le_s (ov_le_s (ov_le_s (ov_le_n (ov_le_n (ov_le_e))))))) ?_
    exact hk
  · rw [if_neg hc7] at h
    refine ev_aload_n od_211_52 rfl ?_
    refine ev_gf (v := .ref 56) og_211_53 oO_42 rfl ?_
    refine ev_iconst (v := (0 : Int32)) od_211_56 (by decide) ?_
    refine ev_iload od_211_57 rfl ?_
    refine ev_iadd od_211_59 ?_
    refine ev_iload_n od_211_60 rfl ?_
    refine ev_iload od_211_61 rfl ?_
    obtain ⟨y3, hy3, h⟩ := ov_bd h
    try dsimp only at h
    refine ev_csi (y := 152) (n := 2) (as := [.int x3, .int x4]) (rest := [.int ((0 : Int32) + x4), .ref 56]) (dc := 1) oc_211_63 rfl rfl rfl rfl rfl (by decide) (R152  hy3) ?_
    refine ev_if_eq (t := 81) od_211_66 (by decide) (fun hc6 => ?_) (fun hc6 => ?_)
    · rw [if_pos hc6] at h
      refine ev_bipush (v := (-9 : Int32)) od_211_81 (by decide) ?_
      exact t211_83_43  h hk
    · rw [if_neg hc6] at h
      refine ev_aload_n od_211_69 rfl ?_
      refine ev_gf (v := .ref 55) og_211_70 oO_42 rfl ?_
      refine ev_iconst (v := (0 : Int32)) od_211_73 (by decide) ?_
      refine ev_iload od_211_74 rfl ?_
      refine ev_iadd od_211_76 ?_
      obtain ⟨bq5, h⟩ := ov_ck_ok h
      refine ev_iald od_211_77 oA_55 (ov_ibk bq5) ?_
      refine ev_goto (t := 83) od_211_78 (by decide) ?_
      exact t211_83_43  h hk
def b211_17 (x1 : Int32) (x2 : Int32) (x3 : Int32) (S : ov_S) : Option ((Int32 × ov_S) ⊕ (ov_S)) :=
  (if ((1 : Int32) <<< ((S 42 7) &&& 31)) ≤ x3 then some (.inr S) else (f158 55 56 S (12 : Int32)).bind fun y2 => ((ov_lp (fun s => b211_43 x1 x2 x3 s.1 s.2) 2000 ((0 : Int32), y2)).bind fun e8 => (f163 56 e8).bind fun y9 => (f191 y9).bind fun y10 => ov_ck (ov_ibb x3 64) (some (.inl ((x3 + (1 : Int32)), (ov_up e8 66 (x3).toNatClampNeg y10))))))
theorem bt211_17 {L : Nat} {S : ov_S} {G : ov_L2} {x1 : Int32} {x2 : Int32} {x3 : Int32} {P : Option Value → ov_S → ov_L2 → Prop}  {out : (Int32 × ov_S) ⊕ (ov_S)} (h : b211_17 x1 x2 x3 S = some out) (hk : ov_sm (σ := Int32 × ov_S) (ε := (ov_S)) (fun s => ov_J L 5 211 17 [some (.ref 42), some (.int x1), some (.int x2), some (.int s.1), none, none] [] s.2 G P) (fun e => ov_J L 5 211 113 [some (.ref 42), some (.int x1), some (.int x2), none, none, none] [] e G P) out) : ov_J L 5 211 17 [some (.ref 42), some (.int x1), some (.int x2), some (.int x3), none, none] [] S G P := by
  unfold b211_17 at h
  refine ev_iload_n od_211_17 rfl ?_
  refine ev_iconst (v := (1 : Int32)) od_211_18 (by decide) ?_
  refine ev_aload_n od_211_19 rfl ?_
  refine ev_gf (v := .int (S 42 7)) og_211_20 oO_42 rfl ?_
  refine ev_ishl od_211_23 ?_
  refine ev_icmp_ge (t := 113) od_211_24 (by decide) (fun hc12 => ?_) (fun hc12 => ?_)
  · rw [if_pos hc12] at h
    cases h
    refine ev_fg (lv0 := [some (.ref 42), some (.int x1), some (.int x2), none, none, none]) (ov_le_s (ov_le_s (ov_le_s (ov_le_n (ov_le_n (ov_le_n (ov_le_e))))))) ?_
    exact hk
  · rw [if_neg hc12] at h
    refine ev_aload_n od_211_27 rfl ?_
    refine ev_gf (v := .ref 55) og_211_28 oO_42 rfl ?_
    refine ev_aload_n od_211_31 rfl ?_
    refine ev_gf (v := .ref 56) og_211_32 oO_42 rfl ?_
    refine ev_bipush (v := (12 : Int32)) od_211_35 (by decide) ?_
    obtain ⟨y2, hy2, h⟩ := ov_bd h
    try dsimp only at h
    refine ev_csv (y := 158) (n := 3) (as := [.ref 55, .ref 56, .int (12 : Int32)]) (rest := []) (dc := 1) oc_211_37 rfl rfl rfl rfl rfl (by decide) (R158 oA_55 oA_56 hy2) ?_
    refine ev_iconst (v := (0 : Int32)) od_211_40 (by decide) ?_
    refine ev_istore (lv1 := [some (.ref 42), some (.int x1), some (.int x2), some (.int x3), some (.int (0 : Int32)), none]) od_211_41 rfl rfl ?_
    obtain ⟨e8, he8, h⟩ := ov_bd h
    try dsimp only at h
    refine ov_lp_S (body := (fun s => b211_43 x1 x2 x3 s.1 s.2)) (head := (fun s => ov_J L 5 211 43 [some (.ref 42), some (.int x1), some (.int x2), some (.int x3), some (.int s.1), none] [] s.2 G P)) (exit := (fun e => ov_J L 5 211 90 [some (.ref 42), some (.int x1), some (.int x2), some (.int x3), none, none] [] e G P)) (fun s r hb hk => bt211_43  hb hk) 2000 ((0 : Int32), y2) e8 he8 ?_
    show ov_J L 5 211 90 [some (.ref 42), some (.int x1), some (.int x2), some (.int x3), none, none] [] e8 G P
    refine ev_aload_n od_211_90 rfl ?_
    refine ev_gf (v := .ref 66) og_211_91 oO_42 rfl ?_
    refine ev_iload_n od_211_94 rfl ?_
    refine ev_aload_n od_211_95 rfl ?_
    refine ev_aload_n od_211_96 rfl ?_
    refine ev_gf (v := .ref 56) og_211_97 oO_42 rfl ?_
    obtain ⟨y9, hy9, h⟩ := ov_bd h
    try dsimp only at h
    refine ev_cvi (y := 163) (n := 1) (a := 42) (c := 8) (as := [.ref 56]) (rest := [.int x3, .ref 66]) (dc := 5) oc_211_100 rfl rfl rfl oO_42 rfl rfl rfl rfl (by decide) (R163 oA_56 hy9) ?_
    obtain ⟨y10, hy10, h⟩ := ov_bd h
    try dsimp only at h
    refine ev_csi (y := 191) (n := 1) (as := [.int y9]) (rest := [.int x3, .ref 66]) (dc := 1) oc_211_103 rfl rfl rfl rfl rfl (by decide) (R191  hy10) ?_
    obtain ⟨bq11, h⟩ := ov_ck_ok h
    refine ev_iast od_211_106 oA_66 (ov_ibk bq11) ?_
    refine ev_iinc (v := (x3 + (1 : Int32))) (lv1 := [some (.ref 42), some (.int x1), some (.int x2), some (.int (x3 + (1 : Int32))), none, none]) od_211_107 rfl rfl rfl ?_
    refine ev_goto (t := 17) od_211_110 (by decide) ?_
    cases h
    exact hk
def f211_186_118 (S : ov_S) (x1 : Int32) (x2 : Int32) (x3 : Int32) (x4 : Int32) : Option ((Int32 × Int32) ⊕ (Int32)) :=
  some (.inl (x3, (x4 + (1 : Int32))))
theorem t211_186_118 {L : Nat} {S : ov_S} {G : ov_L2} {x1 : Int32} {x2 : Int32} {x3 : Int32} {x4 : Int32} {P : Option Value → ov_S → ov_L2 → Prop}  {out : (Int32 × Int32) ⊕ (Int32)} (h : f211_186_118 S x1 x2 x3 x4 = some out) (hk : ov_sm (σ := Int32 × Int32) (ε := (Int32)) (fun s => ov_J L 5 211 118 [some (.ref 42), some (.int x1), some (.int x2), some (.int s.1), some (.int s.2), none] [] S G P) (fun e => ov_J L 5 211 192 [some (.ref 42), none, some (.int x2), some (.int e), none, none] [] S G P) out) : ov_J L 5 211 186 [some (.ref 42), some (.int x1), some (.int x2), some (.int x3), some (.int x4), none] [] S G P := by
  unfold f211_186_118 at h
  refine ev_iinc (v := (x4 + (1 : Int32))) (lv1 := [some (.ref 42), some (.int x1), some (.int x2), some (.int x3), some (.int (x4 + (1 : Int32))), none]) od_211_186 rfl rfl rfl ?_
  refine ev_goto (t := 118) od_211_189 (by decide) ?_
  cases h
  exact hk
def b211_118 (S : ov_S) (x1 : Int32) (x2 : Int32) (x3 : Int32) (x4 : Int32) : Option ((Int32 × Int32) ⊕ (Int32)) :=
  (if ((1 : Int32) <<< ((S 42 7) &&& 31)) ≤ x4 then some (.inr x3) else (f152 x4 x1).bind fun y14 => (if y14 = 0 then (f191 x4).bind fun y15 => (f212 y15).bind fun y16 => (f212 (((S 42 7) - (1 : Int32)) - y15)).bind fun y17 => ov_ck (ov_ibb (x4 ||| ((1 : Int32) <<< (x1 &&& 31))) 64) (ov_ck (ov_ibb x4 64) (f211_186_118 S x1 x2 (x3 + ((y16 * y17) * ((S 66 ((x4 ||| ((1 : Int32) <<< (x1 &&& 31)))).toNatClampNeg) - (S 66 (x4).toNatClampNeg)))) x4)) else f211_186_118 S x1 x2 x3 x4))
theorem bt211_118 {L : Nat} {S : ov_S} {G : ov_L2} {x1 : Int32} {x2 : Int32} {x3 : Int32} {x4 : Int32} {P : Option Value → ov_S → ov_L2 → Prop}  {out : (Int32 × Int32) ⊕ (Int32)} (h : b211_118 S x1 x2 x3 x4 = some out) (hk : ov_sm (σ := Int32 × Int32) (ε := (Int32)) (fun s => ov_J L 5 211 118 [some (.ref 42), some (.int x1), some (.int x2), some (.int s.1), some (.int s.2), none] [] S G P) (fun e => ov_J L 5 211 192 [some (.ref 42), none, some (.int x2), some (.int e), none, none] [] S G P) out) : ov_J L 5 211 118 [some (.ref 42), some (.int x1), some (.int x2), some (.int x3), some (.int x4), none] [] S G P := by
  unfold b211_118 at h
  refine ev_iload od_211_118 rfl ?_
  refine ev_iconst (v := (1 : Int32)) od_211_120 (by decide) ?_
  refine ev_aload_n od_211_121 rfl ?_
  refine ev_gf (v := .int (S 42 7)) og_211_122 oO_42 rfl ?_
  refine ev_ishl od_211_125 ?_
  refine ev_icmp_ge (t := 192) od_211_126 (by decide) (fun hc21 => ?_) (fun hc21 => ?_)
  · rw [if_pos hc21] at h
    cases h
    refine ev_fg (lv0 := [some (.ref 42), none, some (.int x2), some (.int x3), none, none]) (ov_le_s (ov_le_n (ov_le_s (ov_le_s (ov_le_n (ov_le_n (ov_le_e))))))) ?_
    exact hk
  · rw [if_neg hc21] at h
    refine ev_iload od_211_129 rfl ?_
    refine ev_iload_n od_211_131 rfl ?_
    obtain ⟨y14, hy14, h⟩ := ov_bd h
    try dsimp only at h
    refine ev_csi (y := 152) (n := 2) (as := [.int x4, .int x1]) (rest := []) (dc := 1) oc_211_132 rfl rfl rfl rfl rfl (by decide) (R152  hy14) ?_
    refine ev_if_ne (t := 186) od_211_135 (by decide) (fun hc20 => ?_) (fun hc20 => ?_)
    · rw [if_neg hc20] at h
      exact t211_186_118  h hk
    · rw [if_pos hc20] at h
      refine ev_iload od_211_138 rfl ?_
      obtain ⟨y15, hy15, h⟩ := ov_bd h
      try dsimp only at h
      refine ev_csi (y := 191) (n := 1) (as := [.int x4]) (rest := []) (dc := 1) oc_211_140 rfl rfl rfl rfl rfl (by decide) (R191  hy15) ?_
      refine ev_istore (lv1 := [some (.ref 42), some (.int x1), some (.int x2), some (.int x3), some (.int x4), some (.int y15)]) od_211_143 rfl rfl ?_
      refine ev_iload_n od_211_145 rfl ?_
      refine ev_iload od_211_146 rfl ?_
      obtain ⟨y16, hy16, h⟩ := ov_bd h
      try dsimp only at h
      refine ev_csi (y := 212) (n := 1) (as := [.int y15]) (rest := [.int x3]) (dc := 1) oc_211_148 rfl rfl rfl rfl rfl (by decide) (R212  hy16) ?_
      refine ev_aload_n od_211_151 rfl ?_
      refine ev_gf (v := .int (S 42 7)) og_211_152 oO_42 rfl ?_
      refine ev_iconst (v := (1 : Int32)) od_211_155 (by decide) ?_
      refine ev_isub od_211_156 ?_
      refine ev_iload od_211_157 rfl ?_
      refine ev_isub od_211_159 ?_
      obtain ⟨y17, hy17, h⟩ := ov_bd h
      try dsimp only at h
      refine ev_csi (y := 212) (n := 1) (as := [.int (((S 42 7) - (1 : Int32)) - y15)]) (rest := [.int y16, .int x3]) (dc := 1) oc_211_160 rfl rfl rfl rfl rfl (by decide) (R212  hy17) ?_
      refine ev_imul od_211_163 ?_
      refine ev_aload_n od_211_164 rfl ?_
      refine ev_gf (v := .ref 66) og_211_165 oO_42 rfl ?_
      refine ev_iload od_211_168 rfl ?_
      refine ev_iconst (v := (1 : Int32)) od_211_170 (by decide) ?_
      refine ev_iload_n od_211_171 rfl ?_
      refine ev_ishl od_211_172 ?_
      refine ev_ior od_211_173 ?_
      obtain ⟨bq18, h⟩ := ov_ck_ok h
      refine ev_iald od_211_174 oA_66 (ov_ibk bq18) ?_
      refine ev_aload_n od_211_175 rfl ?_
      refine ev_gf (v := .ref 66) og_211_176 oO_42 rfl ?_
      refine ev_iload od_211_179 rfl ?_
      obtain ⟨bq19, h⟩ := ov_ck_ok h
      refine ev_iald od_211_181 oA_66 (ov_ibk bq19) ?_
      refine ev_isub od_211_182 ?_
      refine ev_imul od_211_183 ?_
      refine ev_iadd od_211_184 ?_
      refine ev_istore_n (lv1 := [some (.ref 42), some (.int x1), some (.int x2), some (.int (x3 + ((y16 * y17) * ((S 66 ((x4 ||| ((1 : Int32) <<< (x1 &&& 31)))).toNatClampNeg) - (S 66 (x4).toNatClampNeg))))), some (.int x4), some (.int y15)]) od_211_185 rfl rfl ?_
      refine ev_fg (lv0 := [some (.ref 42), some (.int x1), some (.int x2), some (.int (x3 + ((y16 * y17) * ((S 66 ((x4 ||| ((1 : Int32) <<< (x1 &&& 31)))).toNatClampNeg) - (S 66 (x4).toNatClampNeg))))), some (.int x4), none]) (ov_le_s (ov_le_s (ov_le_s (ov_le_s (ov_le_s (ov_le_n (ov_le_e))))))) ?_
      exact t211_186_118  h hk
def f211 (S : ov_S) (x1 : Int32) (x2 : Int32) : Option (Int32 × ov_S) :=
  (f175 (ov_up S 42 0 (0 : Int32)) x1).bind fun y1 => (if y1 = 0 then ((ov_lp (fun s => b211_17 x1 x2 s.1 s.2) 2000 ((0 : Int32), (ov_up S 42 0 (0 : Int32)))).bind fun e13 => ((ov_lp (fun s => b211_118 e13 x1 x2 s.1 s.2) 2000 ((0 : Int32), (0 : Int32))).bind fun e22 => (f212 (e13 42 7)).bind fun y23 => (f213 e22 y23 x2).bind fun y24 => some (y24, e13))) else some ((-1 : Int32), (ov_up S 42 0 (0 : Int32))))
theorem t211 {L : Nat} {S : ov_S} {G : ov_L2} {x1 : Int32} {x2 : Int32} {P : Option Value → ov_S → ov_L2 → Prop}  {out : Int32 × ov_S} (h : f211 S x1 x2 = some out) (hP : P (some (.int out.1)) out.2 G) : ov_J L 5 211 0 [some (.ref 42), some (.int x1), some (.int x2), none, none, none] [] S G P := by
  unfold f211 at h
  refine ev_aload_n od_211_0 rfl ?_
  refine ev_iconst (v := (0 : Int32)) od_211_1 (by decide) ?_
  refine ev_pf op_211_2 oO_42 rfl rfl ?_
  refine ev_aload_n od_211_5 rfl ?_
  refine ev_iload_n od_211_6 rfl ?_
  obtain ⟨y1, hy1, h⟩ := ov_bd h
  try dsimp only at h
  refine ev_cvi (y := 175) (n := 1) (a := 42) (c := 8) (as := [.int x1]) (rest := []) (dc := 2) oc_211_7 rfl rfl rfl oO_42 rfl rfl rfl rfl (by decide) (R175  hy1) ?_
  refine ev_if_eq (t := 15) od_211_10 (by decide) (fun hc25 => ?_) (fun hc25 => ?_)
  · rw [if_pos hc25] at h
    refine ev_iconst (v := (0 : Int32)) od_211_15 (by decide) ?_
    refine ev_istore_n (lv1 := [some (.ref 42), some (.int x1), some (.int x2), some (.int (0 : Int32)), none, none]) od_211_16 rfl rfl ?_
    obtain ⟨e13, he13, h⟩ := ov_bd h
    try dsimp only at h
    refine ov_lp_S (body := (fun s => b211_17 x1 x2 s.1 s.2)) (head := (fun s => ov_J L 5 211 17 [some (.ref 42), some (.int x1), some (.int x2), some (.int s.1), none, none] [] s.2 G P)) (exit := (fun e => ov_J L 5 211 113 [some (.ref 42), some (.int x1), some (.int x2), none, none, none] [] e G P)) (fun s r hb hk => bt211_17  hb hk) 2000 ((0 : Int32), (ov_up S 42 0 (0 : Int32))) e13 he13 ?_
    show ov_J L 5 211 113 [some (.ref 42), some (.int x1), some (.int x2), none, none, none] [] e13 G P
    refine ev_iconst (v := (0 : Int32)) od_211_113 (by decide) ?_
    refine ev_istore_n (lv1 := [some (.ref 42), some (.int x1), some (.int x2), some (.int (0 : Int32)), none, none]) od_211_114 rfl rfl ?_
    refine ev_iconst (v := (0 : Int32)) od_211_115 (by decide) ?_
    refine ev_istore (lv1 := [some (.ref 42), some (.int x1), some (.int x2), some (.int (0 : Int32)), some (.int (0 : Int32)), none]) od_211_116 rfl rfl ?_
    obtain ⟨e22, he22, h⟩ := ov_bd h
    try dsimp only at h
    refine ov_lp_S (body := (fun s => b211_118 e13 x1 x2 s.1 s.2)) (head := (fun s => ov_J L 5 211 118 [some (.ref 42), some (.int x1), some (.int x2), some (.int s.1), some (.int s.2), none] [] e13 G P)) (exit := (fun e => ov_J L 5 211 192 [some (.ref 42), none, some (.int x2), some (.int e), none, none] [] e13 G P)) (fun s r hb hk => bt211_118  hb hk) 2000 ((0 : Int32), (0 : Int32)) e22 he22 ?_
    show ov_J L 5 211 192 [some (.ref 42), none, some (.int x2), some (.int e22), none, none] [] e13 G P
    refine ev_iload_n od_211_192 rfl ?_
    refine ev_aload_n od_211_193 rfl ?_
    refine ev_gf (v := .int (e13 42 7)) og_211_194 oO_42 rfl ?_
    obtain ⟨y23, hy23, h⟩ := ov_bd h
    try dsimp only at h
    refine ev_csi (y := 212) (n := 1) (as := [.int (e13 42 7)]) (rest := [.int e22]) (dc := 1) oc_211_197 rfl rfl rfl rfl rfl (by decide) (R212  hy23) ?_
    refine ev_iload_n od_211_200 rfl ?_
    obtain ⟨y24, hy24, h⟩ := ov_bd h
    try dsimp only at h
    refine ev_csi (y := 213) (n := 3) (as := [.int e22, .int y23, .int x2]) (rest := []) (dc := 2) oc_211_201 rfl rfl rfl rfl rfl (by decide) (R213  hy24) ?_
    cases h
    exact ev_iret od_211_204 rfl hP
  · rw [if_neg hc25] at h
    refine ev_iconst (v := (-1 : Int32)) od_211_13 (by decide) ?_
    cases h
    exact ev_iret od_211_14 rfl hP
theorem R211 {L : Nat} {S : ov_S} {G : ov_L2} {x1 : Int32} {x2 : Int32}  {out : Int32 × ov_S} (h : f211 S x1 x2 = some out) : ov_R L 6 211 [.ref 42, .int x1, .int x2] S G (some (.int out.1)) out.2 G :=
  ov_Rof (t211  h ⟨rfl, rfl, rfl⟩)
