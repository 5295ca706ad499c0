-- 219 OEModel.findRests
def b219_13 (x1 : Int32) (x2 : Int32) (x3 : Int32) (x4 : Int32) (S : ov_S) : Option ((Int32 × ov_S) ⊕ (ov_S)) :=
  (if (S 42 4) ≤ x4 then some (.inr S) else (f158 55 56 S (12 : Int32)).bind fun y1 => (f201 y1 x1 x3).bind fun y2 => (f201 y2.2 x2 x4).bind fun y3 => (f220 y3.2 x1 y2.1).bind fun y4 => ov_ck (ov_ibb ((2 : Int32) * (((3 : Int32) * x3) + x4)) 18) ((f220 (ov_up y3.2 65 (((2 : Int32) * (((3 : Int32) * x3) + x4))).toNatClampNeg y4) x2 y3.1).bind fun y6 => ov_ck (ov_ibb (((2 : Int32) * (((3 : Int32) * x3) + x4)) + (1 : Int32)) 18) (some (.inl ((x4 + (1 : Int32)), (ov_up (ov_up y3.2 65 (((2 : Int32) * (((3 : Int32) * x3) + x4))).toNatClampNeg y4) 65 ((((2 : Int32) * (((3 : Int32) * x3) + x4)) + (1 : Int32))).toNatClampNeg y6))))))
theorem bt219_13 {L : Nat} {S : ov_S} {G : ov_L2} {x1 : Int32} {x2 : Int32} {x3 : Int32} {x4 : Int32} {P : Option Value → ov_S → ov_L2 → Prop}  {out : (Int32 × ov_S) ⊕ (ov_S)} (h : b219_13 x1 x2 x3 x4 S = some out) (hk : ov_sm (σ := Int32 × ov_S) (ε := (ov_S)) (fun s => ov_J L 5 219 13 [some (.ref 42), some (.int x1), some (.int x2), some (.int x3), some (.int s.1), none, none] [] s.2 G P) (fun e => ov_J L 5 219 100 [some (.ref 42), some (.int x1), some (.int x2), some (.int x3), none, none, none] [] e G P) out) : ov_J L 5 219 13 [some (.ref 42), some (.int x1), some (.int x2), some (.int x3), some (.int x4), none, none] [] S G P := by
  unfold b219_13 at h
  refine ev_iload od_219_13 rfl ?_
  refine ev_aload_n od_219_15 rfl ?_
  refine ev_gf (v := .int (S 42 4)) og_219_16 oO_42 rfl ?_
  refine ev_icmp_ge (t := 100) od_219_19 (by decide) (fun hc8 => ?_) (fun hc8 => ?_)
  · rw [if_pos hc8] at h
    cases h
    refine ev_fg (lv0 := [some (.ref 42), some (.int x1), some (.int x2), some (.int x3), none, none, none]) (ov_le_s (ov_le_s (ov_le_s (ov_le_s (ov_le_n (ov_le_n (ov_le_n (ov_le_e)))))))) ?_
    exact hk
  · rw [if_neg hc8] at h
    refine ev_aload_n od_219_22 rfl ?_
    refine ev_gf (v := .ref 55) og_219_23 oO_42 rfl ?_
    refine ev_aload_n od_219_26 rfl ?_
    refine ev_gf (v := .ref 56) og_219_27 oO_42 rfl ?_
    refine ev_bipush (v := (12 : Int32)) od_219_30 (by decide) ?_
    obtain ⟨y1, hy1, h⟩ := ov_bd h
    try dsimp only at h
    refine ev_csv (y := 158) (n := 3) (as := [.ref 55, .ref 56, .int (12 : Int32)]) (rest := []) (dc := 1) oc_219_32 rfl rfl rfl rfl rfl (by decide) (R158 oA_55 oA_56 hy1) ?_
    refine ev_aload_n od_219_35 rfl ?_
    refine ev_iload_n od_219_36 rfl ?_
    refine ev_iload_n od_219_37 rfl ?_
    obtain ⟨y2, hy2, h⟩ := ov_bd h
    try dsimp only at h
    refine ev_cvi (y := 201) (n := 2) (a := 42) (c := 8) (as := [.int x1, .int x3]) (rest := []) (dc := 5) oc_219_38 rfl rfl rfl oO_42 rfl rfl rfl rfl (by decide) (R201  hy2) ?_
    refine ev_istore (lv1 := [some (.ref 42), some (.int x1), some (.int x2), some (.int x3), some (.int x4), some (.int y2.1), none]) od_219_41 rfl rfl ?_
    refine ev_aload_n od_219_43 rfl ?_
    refine ev_iload_n od_219_44 rfl ?_
    refine ev_iload od_219_45 rfl ?_
    obtain ⟨y3, hy3, h⟩ := ov_bd h
    try dsimp only at h
    refine ev_cvi (y := 201) (n := 2) (a := 42) (c := 8) (as := [.int x2, .int x4]) (rest := []) (dc := 5) oc_219_47 rfl rfl rfl oO_42 rfl rfl rfl rfl (by decide) (R201  hy3) ?_
    refine ev_istore (lv1 := [some (.ref 42), some (.int x1), some (.int x2), some (.int x3), some (.int x4), some (.int y2.1), some (.int y3.1)]) od_219_50 rfl rfl ?_
    refine ev_aload_n od_219_52 rfl ?_
    refine ev_gf (v := .ref 65) og_219_53 oO_42 rfl ?_
    refine ev_iconst (v := (2 : Int32)) od_219_56 (by decide) ?_
    refine ev_iconst (v := (3 : Int32)) od_219_57 (by decide) ?_
    refine ev_iload_n od_219_58 rfl ?_
    refine ev_imul od_219_59 ?_
    refine ev_iload od_219_60 rfl ?_
    refine ev_iadd od_219_62 ?_
    refine ev_imul od_219_63 ?_
    refine ev_aload_n od_219_64 rfl ?_
    refine ev_iload_n od_219_65 rfl ?_
    refine ev_iload od_219_66 rfl ?_
    obtain ⟨y4, hy4, h⟩ := ov_bd h
    try dsimp only at h
    refine ev_cvi (y := 220) (n := 2) (a := 42) (c := 8) (as := [.int x1, .int y2.1]) (rest := [.int ((2 : Int32) * (((3 : Int32) * x3) + x4)), .ref 65]) (dc := 2) oc_219_68 rfl rfl rfl oO_42 rfl rfl rfl rfl (by decide) (R220  hy4) ?_
    obtain ⟨bq5, h⟩ := ov_ck_ok h
    refine ev_iast od_219_71 oA_65 (ov_ibk bq5) ?_
    refine ev_aload_n od_219_72 rfl ?_
    refine ev_gf (v := .ref 65) og_219_73 oO_42 rfl ?_
    refine ev_iconst (v := (2 : Int32)) od_219_76 (by decide) ?_
    refine ev_iconst (v := (3 : Int32)) od_219_77 (by decide) ?_
    refine ev_iload_n od_219_78 rfl ?_
    refine ev_imul od_219_79 ?_
    refine ev_iload od_219_80 rfl ?_
    refine ev_iadd od_219_82 ?_
    refine ev_imul od_219_83 ?_
    refine ev_iconst (v := (1 : Int32)) od_219_84 (by decide) ?_
    refine ev_iadd od_219_85 ?_
    refine ev_aload_n od_219_86 rfl ?_
    refine ev_iload_n od_219_87 rfl ?_
    refine ev_iload od_219_88 rfl ?_
    obtain ⟨y6, hy6, h⟩ := ov_bd h
    try dsimp only at h
    refine ev_cvi (y := 220) (n := 2) (a := 42) (c := 8) (as := [.int x2, .int y3.1]) (rest := [.int (((2 : Int32) * (((3 : Int32) * x3) + x4)) + (1 : Int32)), .ref 65]) (dc := 2) oc_219_90 rfl rfl rfl oO_42 rfl rfl rfl rfl (by decide) (R220  hy6) ?_
    obtain ⟨bq7, h⟩ := ov_ck_ok h
    refine ev_iast od_219_93 oA_65 (ov_ibk bq7) ?_
    refine ev_iinc (v := (x4 + (1 : Int32))) (lv1 := [some (.ref 42), some (.int x1), some (.int x2), some (.int x3), some (.int (x4 + (1 : Int32))), some (.int y2.1), some (.int y3.1)]) od_219_94 rfl rfl rfl ?_
    refine ev_goto (t := 13) od_219_97 (by decide) ?_
    cases h
    refine ev_fg (lv0 := [some (.ref 42), some (.int x1), some (.int x2), some (.int x3), some (.int (x4 + (1 : Int32))), none, none]) (ov_le_s (ov_le_s (ov_le_s (ov_le_s (ov_le_s (ov_le_n (ov_le_n (ov_le_e)))))))) ?_
    exact hk
def b219_2 (x1 : Int32) (x2 : Int32) (x3 : Int32) (S : ov_S) : Option ((Int32 × ov_S) ⊕ (ov_S)) :=
  (if (S 42 4) ≤ x3 then some (.inr S) else ((ov_lp (fun s => b219_13 x1 x2 x3 s.1 s.2) 2000 ((0 : Int32), S)).bind fun e9 => some (.inl ((x3 + (1 : Int32)), e9))))
theorem bt219_2 {L : Nat} {S : ov_S} {G : ov_L2} {x1 : Int32} {x2 : Int32} {x3 : Int32} {P : Option Value → ov_S → ov_L2 → Prop}  {out : (Int32 × ov_S) ⊕ (ov_S)} (h : b219_2 x1 x2 x3 S = some out) (hk : ov_sm (σ := Int32 × ov_S) (ε := (ov_S)) (fun s => ov_J L 5 219 2 [some (.ref 42), some (.int x1), some (.int x2), some (.int s.1), none, none, none] [] s.2 G P) (fun e => ov_J L 5 219 106 [some (.ref 42), none, none, none, none, none, none] [] e G P) out) : ov_J L 5 219 2 [some (.ref 42), some (.int x1), some (.int x2), some (.int x3), none, none, none] [] S G P := by
  unfold b219_2 at h
  refine ev_iload_n od_219_2 rfl ?_
  refine ev_aload_n od_219_3 rfl ?_
  refine ev_gf (v := .int (S 42 4)) og_219_4 oO_42 rfl ?_
  refine ev_icmp_ge (t := 106) od_219_7 (by decide) (fun hc10 => ?_) (fun hc10 => ?_)
  · rw [if_pos hc10] at h
    cases h
    refine ev_fg (lv0 := [some (.ref 42), none, none, none, none, none, none]) (ov_le_s (ov_le_n (ov_le_n (ov_le_n (ov_le_n (ov_le_n (ov_le_n (ov_le_e)))))))) ?_
    exact hk
  · rw [if_neg hc10] at h
    refine ev_iconst (v := (0 : Int32)) od_219_10 (by decide) ?_
    refine ev_istore (lv1 := [some (.ref 42), some (.int x1), some (.int x2), some (.int x3), some (.int (0 : Int32)), none, none]) od_219_11 rfl rfl ?_
    obtain ⟨e9, he9, h⟩ := ov_bd h
    try dsimp only at h
    refine ov_lp_S (body := (fun s => b219_13 x1 x2 x3 s.1 s.2)) (head := (fun s => ov_J L 5 219 13 [some (.ref 42), some (.int x1), some (.int x2), some (.int x3), some (.int s.1), none, none] [] s.2 G P)) (exit := (fun e => ov_J L 5 219 100 [some (.ref 42), some (.int x1), some (.int x2), some (.int x3), none, none, none] [] e G P)) (fun s r hb hk => bt219_13  hb hk) 2000 ((0 : Int32), S) e9 he9 ?_
    show ov_J L 5 219 100 [some (.ref 42), some (.int x1), some (.int x2), some (.int x3), none, none, none] [] e9 G P
    refine ev_iinc (v := (x3 + (1 : Int32))) (lv1 := [some (.ref 42), some (.int x1), some (.int x2), some (.int (x3 + (1 : Int32))), none, none, none]) od_219_100 rfl rfl rfl ?_
    refine ev_goto (t := 2) od_219_103 (by decide) ?_
    cases h
    exact hk
def f219_227_145 (S : ov_S) (x3 : Int32) (x4 : Int32) (x6 : Int32) (s0 : Int32) : Option ((Int32 × Int32) ⊕ (Int32)) :=
  some (.inl (s0, (x6 + (1 : Int32))))
theorem t219_227_145 {L : Nat} {S : ov_S} {G : ov_L2} {x3 : Int32} {x4 : Int32} {x6 : Int32} {s0 : Int32} {P : Option Value → ov_S → ov_L2 → Prop}  {out : (Int32 × Int32) ⊕ (Int32)} (h : f219_227_145 S x3 x4 x6 s0 = some out) (hk : ov_sm (σ := Int32 × Int32) (ε := (Int32)) (fun s => ov_J L 5 219 145 [some (.ref 42), none, none, some (.int x3), some (.int x4), some (.int s.1), some (.int s.2)] [] S G P) (fun e => ov_J L 5 219 235 [some (.ref 42), none, none, some (.int x3), some (.int x4), some (.int e), none] [] S G P) out) : ov_J L 5 219 227 [some (.ref 42), none, none, some (.int x3), some (.int x4), none, some (.int x6)] [.int s0] S G P := by
  unfold f219_227_145 at h
  refine ev_istore (lv1 := [some (.ref 42), none, none, some (.int x3), some (.int x4), some (.int s0), some (.int x6)]) od_219_227 rfl rfl ?_
  refine ev_iinc (v := (x6 + (1 : Int32))) (lv1 := [some (.ref 42), none, none, some (.int x3), some (.int x4), some (.int s0), some (.int (x6 + (1 : Int32)))]) od_219_229 rfl rfl rfl ?_
  refine ev_goto (t := 145) od_219_232 (by decide) ?_
  cases h
  exact hk
def f219_226_145 (S : ov_S) (x3 : Int32) (x4 : Int32) (x6 : Int32) : Option ((Int32 × Int32) ⊕ (Int32)) :=
  f219_227_145 S x3 x4 x6 (0 : Int32)
theorem t219_226_145 {L : Nat} {S : ov_S} {G : ov_L2} {x3 : Int32} {x4 : Int32} {x6 : Int32} {P : Option Value → ov_S → ov_L2 → Prop}  {out : (Int32 × Int32) ⊕ (Int32)} (h : f219_226_145 S x3 x4 x6 = some out) (hk : ov_sm (σ := Int32 × Int32) (ε := (Int32)) (fun s => ov_J L 5 219 145 [some (.ref 42), none, none, some (.int x3), some (.int x4), some (.int s.1), some (.int s.2)] [] S G P) (fun e => ov_J L 5 219 235 [some (.ref 42), none, none, some (.int x3), some (.int x4), some (.int e), none] [] S G P) out) : ov_J L 5 219 226 [some (.ref 42), none, none, some (.int x3), some (.int x4), none, some (.int x6)] [] S G P := by
  unfold f219_226_145 at h
  refine ev_iconst (v := (0 : Int32)) od_219_226 (by decide) ?_
  exact t219_227_145  h hk
def b219_145 (S : ov_S) (x3 : Int32) (x4 : Int32) (x5 : Int32) (x6 : Int32) : Option ((Int32 × Int32) ⊕ (Int32)) :=
  (if (S 42 4) ≤ x6 then some (.inr x5) else (if x5 = 0 then f219_226_145 S x3 x4 x6 else ov_ck (ov_ibb ((2 : Int32) * (((3 : Int32) * x6) + x4)) 18) (ov_ck (ov_ibb ((2 : Int32) * (((3 : Int32) * x3) + x4)) 18) ((if (S 65 (((2 : Int32) * (((3 : Int32) * x3) + x4))).toNatClampNeg) < (S 65 (((2 : Int32) * (((3 : Int32) * x6) + x4))).toNatClampNeg) then f219_226_145 S x3 x4 x6 else ov_ck (ov_ibb (((2 : Int32) * (((3 : Int32) * x3) + x6)) + (1 : Int32)) 18) (ov_ck (ov_ibb (((2 : Int32) * (((3 : Int32) * x3) + x4)) + (1 : Int32)) 18) ((if (S 65 ((((2 : Int32) * (((3 : Int32) * x3) + x4)) + (1 : Int32))).toNatClampNeg) < (S 65 ((((2 : Int32) * (((3 : Int32) * x3) + x6)) + (1 : Int32))).toNatClampNeg) then f219_226_145 S x3 x4 x6 else f219_227_145 S x3 x4 x6 (1 : Int32)))))))))
theorem bt219_145 {L : Nat} {S : ov_S} {G : ov_L2} {x3 : Int32} {x4 : Int32} {x5 : Int32} {x6 : Int32} {P : Option Value → ov_S → ov_L2 → Prop}  {out : (Int32 × Int32) ⊕ (Int32)} (h : b219_145 S x3 x4 x5 x6 = some out) (hk : ov_sm (σ := Int32 × Int32) (ε := (Int32)) (fun s => ov_J L 5 219 145 [some (.ref 42), none, none, some (.int x3), some (.int x4), some (.int s.1), some (.int s.2)] [] S G P) (fun e => ov_J L 5 219 235 [some (.ref 42), none, none, some (.int x3), some (.int x4), some (.int e), none] [] S G P) out) : ov_J L 5 219 145 [some (.ref 42), none, none, some (.int x3), some (.int x4), some (.int x5), some (.int x6)] [] S G P := by
  unfold b219_145 at h
  refine ev_iload od_219_145 rfl ?_
  refine ev_aload_n od_219_147 rfl ?_
  refine ev_gf (v := .int (S 42 4)) og_219_148 oO_42 rfl ?_
  refine ev_icmp_ge (t := 235) od_219_151 (by decide) (fun hc19 => ?_) (fun hc19 => ?_)
  · rw [if_pos hc19] at h
    cases h
    refine ev_fg (lv0 := [some (.ref 42), none, none, some (.int x3), some (.int x4), some (.int x5), none]) (ov_le_s (ov_le_n (ov_le_n (ov_le_s (ov_le_s (ov_le_s (ov_le_n (ov_le_e)))))))) ?_
    exact hk
  · rw [if_neg hc19] at h
    refine ev_iload od_219_154 rfl ?_
    refine ev_if_eq (t := 226) od_219_156 (by decide) (fun hc18 => ?_) (fun hc18 => ?_)
    · rw [if_pos hc18] at h
      refine ev_fg (lv0 := [some (.ref 42), none, none, some (.int x3), some (.int x4), none, some (.int x6)]) (ov_le_s (ov_le_n (ov_le_n (ov_le_s (ov_le_s (ov_le_n (ov_le_s (ov_le_e)))))))) ?_
      exact t219_226_145  h hk
    · rw [if_neg hc18] at h
      refine ev_aload_n od_219_159 rfl ?_
      refine ev_gf (v := .ref 65) og_219_160 oO_42 rfl ?_
      refine ev_iconst (v := (2 : Int32)) od_219_163 (by decide) ?_
      refine ev_iconst (v := (3 : Int32)) od_219_164 (by decide) ?_
      refine ev_iload od_219_165 rfl ?_
      refine ev_imul od_219_167 ?_
      refine ev_iload od_219_168 rfl ?_
      refine ev_iadd od_219_170 ?_
      refine ev_imul od_219_171 ?_
      obtain ⟨bq12, h⟩ := ov_ck_ok h
      refine ev_iald od_219_172 oA_65 (ov_ibk bq12) ?_
      refine ev_aload_n od_219_173 rfl ?_
      refine ev_gf (v := .ref 65) og_219_174 oO_42 rfl ?_
      refine ev_iconst (v := (2 : Int32)) od_219_177 (by decide) ?_
      refine ev_iconst (v := (3 : Int32)) od_219_178 (by decide) ?_
      refine ev_iload_n od_219_179 rfl ?_
      refine ev_imul od_219_180 ?_
      refine ev_iload od_219_181 rfl ?_
      refine ev_iadd od_219_183 ?_
      refine ev_imul od_219_184 ?_
      obtain ⟨bq13, h⟩ := ov_ck_ok h
      refine ev_iald od_219_185 oA_65 (ov_ibk bq13) ?_
      refine ev_icmp_gt (t := 226) od_219_186 (by decide) (fun hc17 => ?_) (fun hc17 => ?_)
      · rw [if_pos hc17] at h
        refine ev_fg (lv0 := [some (.ref 42), none, none, some (.int x3), some (.int x4), none, some (.int x6)]) (ov_le_s (ov_le_n (ov_le_n (ov_le_s (ov_le_s (ov_le_n (ov_le_s (ov_le_e)))))))) ?_
        exact t219_226_145  h hk
      · rw [if_neg hc17] at h
        refine ev_aload_n od_219_189 rfl ?_
        refine ev_gf (v := .ref 65) og_219_190 oO_42 rfl ?_
        refine ev_iconst (v := (2 : Int32)) od_219_193 (by decide) ?_
        refine ev_iconst (v := (3 : Int32)) od_219_194 (by decide) ?_
        refine ev_iload_n od_219_195 rfl ?_
        refine ev_imul od_219_196 ?_
        refine ev_iload od_219_197 rfl ?_
        refine ev_iadd od_219_199 ?_
        refine ev_imul od_219_200 ?_
        refine ev_iconst (v := (1 : Int32)) od_219_201 (by decide) ?_
        refine ev_iadd od_219_202 ?_
        obtain ⟨bq14, h⟩ := ov_ck_ok h
        refine ev_iald od_219_203 oA_65 (ov_ibk bq14) ?_
        refine ev_aload_n od_219_204 rfl ?_
        refine ev_gf (v := .ref 65) og_219_205 oO_42 rfl ?_
        refine ev_iconst (v := (2 : Int32)) od_219_208 (by decide) ?_
        refine ev_iconst (v := (3 : Int32)) od_219_209 (by decide) ?_
        refine ev_iload_n od_219_210 rfl ?_
        refine ev_imul od_219_211 ?_
        refine ev_iload od_219_212 rfl ?_
        refine ev_iadd od_219_214 ?_
        refine ev_imul od_219_215 ?_
        refine ev_iconst (v := (1 : Int32)) od_219_216 (by decide) ?_
        refine ev_iadd od_219_217 ?_
        obtain ⟨bq15, h⟩ := ov_ck_ok h
        refine ev_iald od_219_218 oA_65 (ov_ibk bq15) ?_
        refine ev_icmp_gt (t := 226) od_219_219 (by decide) (fun hc16 => ?_) (fun hc16 => ?_)
        · rw [if_pos hc16] at h
          refine ev_fg (lv0 := [some (.ref 42), none, none, some (.int x3), some (.int x4), none, some (.int x6)]) (ov_le_s (ov_le_n (ov_le_n (ov_le_s (ov_le_s (ov_le_n (ov_le_s (ov_le_e)))))))) ?_
          exact t219_226_145  h hk
        · rw [if_neg hc16] at h
          refine ev_iconst (v := (1 : Int32)) od_219_222 (by decide) ?_
          refine ev_goto (t := 227) od_219_223 (by decide) ?_
          refine ev_fg (lv0 := [some (.ref 42), none, none, some (.int x3), some (.int x4), none, some (.int x6)]) (ov_le_s (ov_le_n (ov_le_n (ov_le_s (ov_le_s (ov_le_n (ov_le_s (ov_le_e)))))))) ?_
          exact t219_227_145  h hk
def f219_280_130 (S : ov_S) (x3 : Int32) (x4 : Int32) (s0 : Int32) (s1 : Int32) : Option ((Int32 × ov_S) ⊕ (ov_S)) :=
  some (.inl ((x4 + (1 : Int32)), (ov_up S 42 39 (s1 + s0))))
theorem t219_280_130 {L : Nat} {S : ov_S} {G : ov_L2} {x3 : Int32} {x4 : Int32} {s0 : Int32} {s1 : Int32} {P : Option Value → ov_S → ov_L2 → Prop}  {out : (Int32 × ov_S) ⊕ (ov_S)} (h : f219_280_130 S x3 x4 s0 s1 = some out) (hk : ov_sm (σ := Int32 × ov_S) (ε := (ov_S)) (fun s => ov_J L 5 219 130 [some (.ref 42), none, none, some (.int x3), some (.int s.1), none, none] [] s.2 G P) (fun e => ov_J L 5 219 290 [some (.ref 42), none, none, some (.int x3), none, none, none] [] e G P) out) : ov_J L 5 219 280 [some (.ref 42), none, none, some (.int x3), some (.int x4), none, none] [.int s0, .int s1, .ref 42] S G P := by
  unfold f219_280_130 at h
  refine ev_iadd od_219_280 ?_
  refine ev_pf op_219_281 oO_42 rfl rfl ?_
  refine ev_iinc (v := (x4 + (1 : Int32))) (lv1 := [some (.ref 42), none, none, some (.int x3), some (.int (x4 + (1 : Int32))), none, none]) od_219_284 rfl rfl rfl ?_
  refine ev_goto (t := 130) od_219_287 (by decide) ?_
  cases h
  exact hk
def f219_262_130 (S : ov_S) (x3 : Int32) (x4 : Int32) (x5 : Int32) (s0 : Int32) : Option ((Int32 × ov_S) ⊕ (ov_S)) :=
  (if x5 = 0 then f219_280_130 (ov_up S 42 40 s0) x3 x4 (0 : Int32) ((ov_up S 42 40 s0) 42 39) else f219_280_130 (ov_up S 42 40 s0) x3 x4 (1 : Int32) ((ov_up S 42 40 s0) 42 39))
theorem t219_262_130 {L : Nat} {S : ov_S} {G : ov_L2} {x3 : Int32} {x4 : Int32} {x5 : Int32} {s0 : Int32} {P : Option Value → ov_S → ov_L2 → Prop}  {out : (Int32 × ov_S) ⊕ (ov_S)} (h : f219_262_130 S x3 x4 x5 s0 = some out) (hk : ov_sm (σ := Int32 × ov_S) (ε := (ov_S)) (fun s => ov_J L 5 219 130 [some (.ref 42), none, none, some (.int x3), some (.int s.1), none, none] [] s.2 G P) (fun e => ov_J L 5 219 290 [some (.ref 42), none, none, some (.int x3), none, none, none] [] e G P) out) : ov_J L 5 219 262 [some (.ref 42), none, none, some (.int x3), some (.int x4), some (.int x5), none] [.int s0, .ref 42] S G P := by
  unfold f219_262_130 at h
  refine ev_pf op_219_262 oO_42 rfl rfl ?_
  refine ev_aload_n od_219_265 rfl ?_
  refine ev_dup od_219_266 rfl ?_
  refine ev_gf (v := .int ((ov_up S 42 40 s0) 42 39)) og_219_267 oO_42 rfl ?_
  refine ev_iload od_219_270 rfl ?_
  refine ev_if_eq (t := 279) od_219_272 (by decide) (fun hc21 => ?_) (fun hc21 => ?_)
  · rw [if_pos hc21] at h
    refine ev_iconst (v := (0 : Int32)) od_219_279 (by decide) ?_
    refine ev_fg (lv0 := [some (.ref 42), none, none, some (.int x3), some (.int x4), none, none]) (ov_le_s (ov_le_n (ov_le_n (ov_le_s (ov_le_s (ov_le_n (ov_le_n (ov_le_e)))))))) ?_
    exact t219_280_130  h hk
  · rw [if_neg hc21] at h
    refine ev_iconst (v := (1 : Int32)) od_219_275 (by decide) ?_
    refine ev_goto (t := 280) od_219_276 (by decide) ?_
    refine ev_fg (lv0 := [some (.ref 42), none, none, some (.int x3), some (.int x4), none, none]) (ov_le_s (ov_le_n (ov_le_n (ov_le_s (ov_le_s (ov_le_n (ov_le_n (ov_le_e)))))))) ?_
    exact t219_280_130  h hk
def f219_258_130 (S : ov_S) (x3 : Int32) (x4 : Int32) (x5 : Int32) : Option ((Int32 × ov_S) ⊕ (ov_S)) :=
  f219_262_130 S x3 x4 x5 (S 42 40)
theorem t219_258_130 {L : Nat} {S : ov_S} {G : ov_L2} {x3 : Int32} {x4 : Int32} {x5 : Int32} {P : Option Value → ov_S → ov_L2 → Prop}  {out : (Int32 × ov_S) ⊕ (ov_S)} (h : f219_258_130 S x3 x4 x5 = some out) (hk : ov_sm (σ := Int32 × ov_S) (ε := (ov_S)) (fun s => ov_J L 5 219 130 [some (.ref 42), none, none, some (.int x3), some (.int s.1), none, none] [] s.2 G P) (fun e => ov_J L 5 219 290 [some (.ref 42), none, none, some (.int x3), none, none, none] [] e G P) out) : ov_J L 5 219 258 [some (.ref 42), none, none, some (.int x3), some (.int x4), some (.int x5), none] [.ref 42] S G P := by
  unfold f219_258_130 at h
  refine ev_aload_n od_219_258 rfl ?_
  refine ev_gf (v := .int (S 42 40)) og_219_259 oO_42 rfl ?_
  exact t219_262_130  h hk
def b219_130 (x3 : Int32) (x4 : Int32) (S : ov_S) : Option ((Int32 × ov_S) ⊕ (ov_S)) :=
  (if (S 42 4) ≤ x4 then some (.inr S) else ((ov_lp (fun s => b219_145 S x3 x4 s.1 s.2) 2000 ((1 : Int32), (0 : Int32))).bind fun e20 => (if e20 = 0 then f219_258_130 S x3 x4 e20 else (if (S 42 39) = 0 then f219_262_130 S x3 x4 e20 (((10 : Int32) * x3) + x4) else f219_258_130 S x3 x4 e20))))
theorem bt219_130 {L : Nat} {S : ov_S} {G : ov_L2} {x3 : Int32} {x4 : Int32} {P : Option Value → ov_S → ov_L2 → Prop}  {out : (Int32 × ov_S) ⊕ (ov_S)} (h : b219_130 x3 x4 S = some out) (hk : ov_sm (σ := Int32 × ov_S) (ε := (ov_S)) (fun s => ov_J L 5 219 130 [some (.ref 42), none, none, some (.int x3), some (.int s.1), none, none] [] s.2 G P) (fun e => ov_J L 5 219 290 [some (.ref 42), none, none, some (.int x3), none, none, none] [] e G P) out) : ov_J L 5 219 130 [some (.ref 42), none, none, some (.int x3), some (.int x4), none, none] [] S G P := by
  unfold b219_130 at h
  refine ev_iload od_219_130 rfl ?_
  refine ev_aload_n od_219_132 rfl ?_
  refine ev_gf (v := .int (S 42 4)) og_219_133 oO_42 rfl ?_
  refine ev_icmp_ge (t := 290) od_219_136 (by decide) (fun hc24 => ?_) (fun hc24 => ?_)
  · rw [if_pos hc24] at h
    cases h
    refine ev_fg (lv0 := [some (.ref 42), none, none, some (.int x3), none, none, none]) (ov_le_s (ov_le_n (ov_le_n (ov_le_s (ov_le_n (ov_le_n (ov_le_n (ov_le_e)))))))) ?_
    exact hk
  · rw [if_neg hc24] at h
    refine ev_iconst (v := (1 : Int32)) od_219_139 (by decide) ?_
    refine ev_istore (lv1 := [some (.ref 42), none, none, some (.int x3), some (.int x4), some (.int (1 : Int32)), none]) od_219_140 rfl rfl ?_
    refine ev_iconst (v := (0 : Int32)) od_219_142 (by decide) ?_
    refine ev_istore (lv1 := [some (.ref 42), none, none, some (.int x3), some (.int x4), some (.int (1 : Int32)), some (.int (0 : Int32))]) od_219_143 rfl rfl ?_
    obtain ⟨e20, he20, h⟩ := ov_bd h
    try dsimp only at h
    refine ov_lp_S (body := (fun s => b219_145 S x3 x4 s.1 s.2)) (head := (fun s => ov_J L 5 219 145 [some (.ref 42), none, none, some (.int x3), some (.int x4), some (.int s.1), some (.int s.2)] [] S G P)) (exit := (fun e => ov_J L 5 219 235 [some (.ref 42), none, none, some (.int x3), some (.int x4), some (.int e), none] [] S G P)) (fun s r hb hk => bt219_145  hb hk) 2000 ((1 : Int32), (0 : Int32)) e20 he20 ?_
    show ov_J L 5 219 235 [some (.ref 42), none, none, some (.int x3), some (.int x4), some (.int e20), none] [] S G P
    refine ev_aload_n od_219_235 rfl ?_
    refine ev_iload od_219_236 rfl ?_
    refine ev_if_eq (t := 258) od_219_238 (by decide) (fun hc23 => ?_) (fun hc23 => ?_)
    · rw [if_pos hc23] at h
      exact t219_258_130  h hk
    · rw [if_neg hc23] at h
      refine ev_aload_n od_219_241 rfl ?_
      refine ev_gf (v := .int (S 42 39)) og_219_242 oO_42 rfl ?_
      refine ev_if_ne (t := 258) od_219_245 (by decide) (fun hc22 => ?_) (fun hc22 => ?_)
      · rw [if_neg hc22] at h
        exact t219_258_130  h hk
      · rw [if_pos hc22] at h
        refine ev_bipush (v := (10 : Int32)) od_219_248 (by decide) ?_
        refine ev_iload_n od_219_250 rfl ?_
        refine ev_imul od_219_251 ?_
        refine ev_iload od_219_252 rfl ?_
        refine ev_iadd od_219_254 ?_
        refine ev_goto (t := 262) od_219_255 (by decide) ?_
        exact t219_262_130  h hk
def b219_119 (x3 : Int32) (S : ov_S) : Option ((Int32 × ov_S) ⊕ (ov_S)) :=
  (if (S 42 4) ≤ x3 then some (.inr S) else ((ov_lp (fun s => b219_130 x3 s.1 s.2) 2000 ((0 : Int32), S)).bind fun e25 => some (.inl ((x3 + (1 : Int32)), e25))))
theorem bt219_119 {L : Nat} {S : ov_S} {G : ov_L2} {x3 : Int32} {P : Option Value → ov_S → ov_L2 → Prop}  {out : (Int32 × ov_S) ⊕ (ov_S)} (h : b219_119 x3 S = some out) (hk : ov_sm (σ := Int32 × ov_S) (ε := (ov_S)) (fun s => ov_J L 5 219 119 [some (.ref 42), none, none, some (.int s.1), none, none, none] [] s.2 G P) (fun e => ov_J L 5 219 296 [none, none, none, none, none, none, none] [] e G P) out) : ov_J L 5 219 119 [some (.ref 42), none, none, some (.int x3), none, none, none] [] S G P := by
  unfold b219_119 at h
  refine ev_iload_n od_219_119 rfl ?_
  refine ev_aload_n od_219_120 rfl ?_
  refine ev_gf (v := .int (S 42 4)) og_219_121 oO_42 rfl ?_
  refine ev_icmp_ge (t := 296) od_219_124 (by decide) (fun hc26 => ?_) (fun hc26 => ?_)
  · rw [if_pos hc26] at h
    cases h
    refine ev_fg (lv0 := [none, none, none, none, none, none, none]) (ov_le_n (ov_le_n (ov_le_n (ov_le_n (ov_le_n (ov_le_n (ov_le_n (ov_le_e)))))))) ?_
    exact hk
  · rw [if_neg hc26] at h
    refine ev_iconst (v := (0 : Int32)) od_219_127 (by decide) ?_
    refine ev_istore (lv1 := [some (.ref 42), none, none, some (.int x3), some (.int (0 : Int32)), none, none]) od_219_128 rfl rfl ?_
    obtain ⟨e25, he25, h⟩ := ov_bd h
    try dsimp only at h
    refine ov_lp_S (body := (fun s => b219_130 x3 s.1 s.2)) (head := (fun s => ov_J L 5 219 130 [some (.ref 42), none, none, some (.int x3), some (.int s.1), none, none] [] s.2 G P)) (exit := (fun e => ov_J L 5 219 290 [some (.ref 42), none, none, some (.int x3), none, none, none] [] e G P)) (fun s r hb hk => bt219_130  hb hk) 2000 ((0 : Int32), S) e25 he25 ?_
    show ov_J L 5 219 290 [some (.ref 42), none, none, some (.int x3), none, none, none] [] e25 G P
    refine ev_iinc (v := (x3 + (1 : Int32))) (lv1 := [some (.ref 42), none, none, some (.int (x3 + (1 : Int32))), none, none, none]) od_219_290 rfl rfl rfl ?_
    refine ev_goto (t := 119) od_219_293 (by decide) ?_
    cases h
    exact hk
def f219 (S : ov_S) (x1 : Int32) (x2 : Int32) : Option (ov_S) :=
  ((ov_lp (fun s => b219_2 x1 x2 s.1 s.2) 2000 ((0 : Int32), S)).bind fun e11 => ((ov_lp (fun s => b219_119  s.1 s.2) 2000 ((0 : Int32), (ov_up (ov_up e11 42 39 (0 : Int32)) 42 40 (-9 : Int32)))).bind fun e27 => some e27))
theorem t219 {L : Nat} {S : ov_S} {G : ov_L2} {x1 : Int32} {x2 : Int32} {P : Option Value → ov_S → ov_L2 → Prop}  {out : ov_S} (h : f219 S x1 x2 = some out) (hP : P none out G) : ov_J L 5 219 0 [some (.ref 42), some (.int x1), some (.int x2), none, none, none, none] [] S G P := by
  unfold f219 at h
  refine ev_iconst (v := (0 : Int32)) od_219_0 (by decide) ?_
  refine ev_istore_n (lv1 := [some (.ref 42), some (.int x1), some (.int x2), some (.int (0 : Int32)), none, none, none]) od_219_1 rfl rfl ?_
  obtain ⟨e11, he11, h⟩ := ov_bd h
  try dsimp only at h
  refine ov_lp_S (body := (fun s => b219_2 x1 x2 s.1 s.2)) (head := (fun s => ov_J L 5 219 2 [some (.ref 42), some (.int x1), some (.int x2), some (.int s.1), none, none, none] [] s.2 G P)) (exit := (fun e => ov_J L 5 219 106 [some (.ref 42), none, none, none, none, none, none] [] e G P)) (fun s r hb hk => bt219_2  hb hk) 2000 ((0 : Int32), S) e11 he11 ?_
  show ov_J L 5 219 106 [some (.ref 42), none, none, none, none, none, none] [] e11 G P
  refine ev_aload_n od_219_106 rfl ?_
  refine ev_iconst (v := (0 : Int32)) od_219_107 (by decide) ?_
  refine ev_pf op_219_108 oO_42 rfl rfl ?_
  refine ev_aload_n od_219_111 rfl ?_
  refine ev_bipush (v := (-9 : Int32)) od_219_112 (by decide) ?_
  refine ev_pf op_219_114 oO_42 rfl rfl ?_
  refine ev_iconst (v := (0 : Int32)) od_219_117 (by decide) ?_
  refine ev_istore_n (lv1 := [some (.ref 42), none, none, some (.int (0 : Int32)), none, none, none]) od_219_118 rfl rfl ?_
  obtain ⟨e27, he27, h⟩ := ov_bd h
  try dsimp only at h
  refine ov_lp_S (body := (fun s => b219_119  s.1 s.2)) (head := (fun s => ov_J L 5 219 119 [some (.ref 42), none, none, some (.int s.1), none, none, none] [] s.2 G P)) (exit := (fun e => ov_J L 5 219 296 [none, none, none, none, none, none, none] [] e G P)) (fun s r hb hk => bt219_119  hb hk) 2000 ((0 : Int32), (ov_up (ov_up e11 42 39 (0 : Int32)) 42 40 (-9 : Int32))) e27 he27 ?_
  show ov_J L 5 219 296 [none, none, none, none, none, none, none] [] e27 G P
  cases h
  exact ev_vret od_219_296 rfl hP
theorem R219 {L : Nat} {S : ov_S} {G : ov_L2} {x1 : Int32} {x2 : Int32}  {out : ov_S} (h : f219 S x1 x2 = some out) : ov_R L 6 219 [.ref 42, .int x1, .int x2] S G none out G :=
  ov_Rof (t219  h ⟨rfl, rfl, rfl⟩)
-- 223 OEModel.evenings
def f223_117_37 (S : ov_S) (G : ov_L2) (x1 : Int32) (x2 : Int32) (x3 : Int32) (s0 : Int32) : Option ((Int32 × Int32 × ov_S × ov_L2) ⊕ (Int32 × ov_S × ov_L2)) :=
  (f210 S s0).bind fun y7 => (f161 56 y7.2).bind fun y8 => (f191 y8).bind fun y9 => some (.inl ((x2 + y9), (x3 + (1 : Int32)), y7.2, G))
theorem t223_117_37 {L : Nat} {S : ov_S} {G : ov_L2} {x1 : Int32} {x2 : Int32} {x3 : Int32} {s0 : Int32} {P : Option Value → ov_S → ov_L2 → Prop}  {out : (Int32 × Int32 × ov_S × ov_L2) ⊕ (Int32 × ov_S × ov_L2)} (h : f223_117_37 S G x1 x2 x3 s0 = some out) (hk : ov_sm (σ := Int32 × Int32 × ov_S × ov_L2) (ε := (Int32 × ov_S × ov_L2)) (fun s => ov_J L 5 223 37 [some (.ref 42), some (.int x1), some (.int s.1), some (.int s.2.1), none] [] s.2.2.1 s.2.2.2 P) (fun e => ov_J L 5 223 141 [none, none, some (.int e.1), none, none] [] e.2.1 e.2.2 P) out) : ov_J L 5 223 117 [some (.ref 42), some (.int x1), some (.int x2), some (.int x3), none] [.int s0, .ref 42] S G P := by
  unfold f223_117_37 at h
  obtain ⟨y7, hy7, h⟩ := ov_bd h
  try dsimp only at h
  refine ev_cvi (y := 210) (n := 1) (a := 42) (c := 8) (as := [.int s0]) (rest := []) (dc := 5) oc_223_117 rfl rfl rfl oO_42 rfl rfl rfl rfl (by decide) (R210  hy7) ?_
  refine ev_pop od_223_120 rfl ?_
  refine ev_iload_n od_223_121 rfl ?_
  refine ev_aload_n od_223_122 rfl ?_
  refine ev_aload_n od_223_123 rfl ?_
  refine ev_gf (v := .ref 56) og_223_124 oO_42 rfl ?_
  obtain ⟨y8, hy8, h⟩ := ov_bd h
  try dsimp only at h
  refine ev_cvi (y := 161) (n := 1) (a := 42) (c := 8) (as := [.ref 56]) (rest := [.int x2]) (dc := 2) oc_223_127 rfl rfl rfl oO_42 rfl rfl rfl rfl (by decide) (R161 oA_56 hy8) ?_
  obtain ⟨y9, hy9, h⟩ := ov_bd h
  try dsimp only at h
  refine ev_csi (y := 191) (n := 1) (as := [.int y8]) (rest := [.int x2]) (dc := 1) oc_223_130 rfl rfl rfl rfl rfl (by decide) (R191  hy9) ?_
  refine ev_iadd od_223_133 ?_
  refine ev_istore_n (lv1 := [some (.ref 42), some (.int x1), some (.int (x2 + y9)), some (.int x3), none]) od_223_134 rfl rfl ?_
  refine ev_iinc (v := (x3 + (1 : Int32))) (lv1 := [some (.ref 42), some (.int x1), some (.int (x2 + y9)), some (.int (x3 + (1 : Int32))), none]) od_223_135 rfl rfl rfl ?_
  refine ev_goto (t := 37) od_223_138 (by decide) ?_
  cases h
  exact hk
def b223_37 (x1 : Int32) (x2 : Int32) (x3 : Int32) (S : ov_S) (G : ov_L2) : Option ((Int32 × Int32 × ov_S × ov_L2) ⊕ (Int32 × ov_S × ov_L2)) :=
  (if x1 ≤ x3 then some (.inr (x2, S, G)) else (if (24 : Int32) ≤ (((((((ov_ug G 42 (((G 42) * (6364136223846793005 : Int64)) + (1442695040888963407 : Int64))) 42)).toUInt64 >>> (((33 : Int32)).toInt64.toUInt64 &&& Int64.toUInt64 63)).toInt64) - (((((ov_ug G 42 (((G 42) * (6364136223846793005 : Int64)) + (1442695040888963407 : Int64))) 42)).toUInt64 >>> (((33 : Int32)).toInt64.toUInt64 &&& Int64.toUInt64 63)).toInt64) / (42 : Int64) * (42 : Int64))).toInt32 then f223_117_37 S (ov_ug G 42 (((G 42) * (6364136223846793005 : Int64)) + (1442695040888963407 : Int64))) x1 x2 x3 (((100 : Int32) + ((10 : Int32) * (((((((((ov_ug G 42 (((G 42) * (6364136223846793005 : Int64)) + (1442695040888963407 : Int64))) 42)).toUInt64 >>> (((33 : Int32)).toInt64.toUInt64 &&& Int64.toUInt64 63)).toInt64) - (((((ov_ug G 42 (((G 42) * (6364136223846793005 : Int64)) + (1442695040888963407 : Int64))) 42)).toUInt64 >>> (((33 : Int32)).toInt64.toUInt64 &&& Int64.toUInt64 63)).toInt64) / (42 : Int64) * (42 : Int64))).toInt32 - (24 : Int32)) / (3 : Int32)))) + ((((((((ov_ug G 42 (((G 42) * (6364136223846793005 : Int64)) + (1442695040888963407 : Int64))) 42)).toUInt64 >>> (((33 : Int32)).toInt64.toUInt64 &&& Int64.toUInt64 63)).toInt64) - (((((ov_ug G 42 (((G 42) * (6364136223846793005 : Int64)) + (1442695040888963407 : Int64))) 42)).toUInt64 >>> (((33 : Int32)).toInt64.toUInt64 &&& Int64.toUInt64 63)).toInt64) / (42 : Int64) * (42 : Int64))).toInt32 - (((((((ov_ug G 42 (((G 42) * (6364136223846793005 : Int64)) + (1442695040888963407 : Int64))) 42)).toUInt64 >>> (((33 : Int32)).toInt64.toUInt64 &&& Int64.toUInt64 63)).toInt64) - (((((ov_ug G 42 (((G 42) * (6364136223846793005 : Int64)) + (1442695040888963407 : Int64))) 42)).toUInt64 >>> (((33 : Int32)).toInt64.toUInt64 &&& Int64.toUInt64 63)).toInt64) / (42 : Int64) * (42 : Int64))).toInt32 / (3 : Int32) * (3 : Int32))) else f223_117_37 S (ov_ug G 42 (((G 42) * (6364136223846793005 : Int64)) + (1442695040888963407 : Int64))) x1 x2 x3 (((200 : Int32) + ((10 : Int32) * ((((((((ov_ug G 42 (((G 42) * (6364136223846793005 : Int64)) + (1442695040888963407 : Int64))) 42)).toUInt64 >>> (((33 : Int32)).toInt64.toUInt64 &&& Int64.toUInt64 63)).toInt64) - (((((ov_ug G 42 (((G 42) * (6364136223846793005 : Int64)) + (1442695040888963407 : Int64))) 42)).toUInt64 >>> (((33 : Int32)).toInt64.toUInt64 &&& Int64.toUInt64 63)).toInt64) / (42 : Int64) * (42 : Int64))).toInt32 / (4 : Int32)))) + ((((((((ov_ug G 42 (((G 42) * (6364136223846793005 : Int64)) + (1442695040888963407 : Int64))) 42)).toUInt64 >>> (((33 : Int32)).toInt64.toUInt64 &&& Int64.toUInt64 63)).toInt64) - (((((ov_ug G 42 (((G 42) * (6364136223846793005 : Int64)) + (1442695040888963407 : Int64))) 42)).toUInt64 >>> (((33 : Int32)).toInt64.toUInt64 &&& Int64.toUInt64 63)).toInt64) / (42 : Int64) * (42 : Int64))).toInt32 - (((((((ov_ug G 42 (((G 42) * (6364136223846793005 : Int64)) + (1442695040888963407 : Int64))) 42)).toUInt64 >>> (((33 : Int32)).toInt64.toUInt64 &&& Int64.toUInt64 63)).toInt64) - (((((ov_ug G 42 (((G 42) * (6364136223846793005 : Int64)) + (1442695040888963407 : Int64))) 42)).toUInt64 >>> (((33 : Int32)).toInt64.toUInt64 &&& Int64.toUInt64 63)).toInt64) / (42 : Int64) * (42 : Int64))).toInt32 / (4 : Int32) * (4 : Int32)))))
theorem bt223_37 {L : Nat} {S : ov_S} {G : ov_L2} {x1 : Int32} {x2 : Int32} {x3 : Int32} {P : Option Value → ov_S → ov_L2 → Prop}  {out : (Int32 × Int32 × ov_S × ov_L2) ⊕ (Int32 × ov_S × ov_L2)} (h : b223_37 x1 x2 x3 S G = some out) (hk : ov_sm (σ := Int32 × Int32 × ov_S × ov_L2) (ε := (Int32 × ov_S × ov_L2)) (fun s => ov_J L 5 223 37 [some (.ref 42), some (.int x1), some (.int s.1), some (.int s.2.1), none] [] s.2.2.1 s.2.2.2 P) (fun e => ov_J L 5 223 141 [none, none, some (.int e.1), none, none] [] e.2.1 e.2.2 P) out) : ov_J L 5 223 37 [some (.ref 42), some (.int x1), some (.int x2), some (.int x3), none] [] S G P := by
  unfold b223_37 at h
  refine ev_iload_n od_223_37 rfl ?_
  refine ev_iload_n od_223_38 rfl ?_
  refine ev_icmp_ge (t := 141) od_223_39 (by decide) (fun hc11 => ?_) (fun hc11 => ?_)
  · rw [if_pos hc11] at h
    cases h
    refine ev_fg (lv0 := [none, none, some (.int x2), none, none]) (ov_le_n (ov_le_n (ov_le_s (ov_le_n (ov_le_n (ov_le_e)))))) ?_
    exact hk
  · rw [if_neg hc11] at h
    refine ev_aload_n od_223_42 rfl ?_
    refine ev_aload_n od_223_43 rfl ?_
    refine ev_gf (v := .long (G 42)) og_223_44 oO_42 rfl ?_
    obtain ⟨w4, hw4⟩ := ok_223_47
    refine ev_ldc2_w od_223_47 hw4 ?_
    refine ev_lmul od_223_50 ?_
    obtain ⟨w5, hw5⟩ := ok_223_51
    refine ev_ldc2_w od_223_51 hw5 ?_
    refine ev_ladd od_223_54 ?_
    refine ev_pfl op_223_55 oO_42 rfl oG_42 rfl ?_
    refine ev_aload_n od_223_58 rfl ?_
    refine ev_gf (v := .long ((ov_ug G 42 (((G 42) * (6364136223846793005 : Int64)) + (1442695040888963407 : Int64))) 42)) og_223_59 oO_42 rfl ?_
    refine ev_bipush (v := (33 : Int32)) od_223_62 (by decide) ?_
    refine ev_lushr od_223_64 ?_
    obtain ⟨w6, hw6⟩ := ok_223_65
    refine ev_ldc2_w od_223_65 hw6 ?_
    refine ev_lrem od_223_68 (by decide) ?_
    refine ev_l2i od_223_69 ?_
    refine ev_istore (lv1 := [some (.ref 42), some (.int x1), some (.int x2), some (.int x3), some (.int (((((((ov_ug G 42 (((G 42) * (6364136223846793005 : Int64)) + (1442695040888963407 : Int64))) 42)).toUInt64 >>> (((33 : Int32)).toInt64.toUInt64 &&& Int64.toUInt64 63)).toInt64) - (((((ov_ug G 42 (((G 42) * (6364136223846793005 : Int64)) + (1442695040888963407 : Int64))) 42)).toUInt64 >>> (((33 : Int32)).toInt64.toUInt64 &&& Int64.toUInt64 63)).toInt64) / (42 : Int64) * (42 : Int64))).toInt32)]) od_223_70 rfl rfl ?_
    refine ev_aload_n od_223_72 rfl ?_
    refine ev_iload od_223_73 rfl ?_
    refine ev_bipush (v := (24 : Int32)) od_223_75 (by decide) ?_
    refine ev_icmp_ge (t := 99) od_223_77 (by decide) (fun hc10 => ?_) (fun hc10 => ?_)
    · rw [if_pos hc10] at h
      refine ev_bipush (v := (100 : Int32)) od_223_99 (by decide) ?_
      refine ev_bipush (v := (10 : Int32)) od_223_101 (by decide) ?_
      refine ev_iload od_223_103 rfl ?_
      refine ev_bipush (v := (24 : Int32)) od_223_105 (by decide) ?_
      refine ev_isub od_223_107 ?_
      refine ev_iconst (v := (3 : Int32)) od_223_108 (by decide) ?_
      refine ev_idiv od_223_109 (by decide) ?_
      refine ev_imul od_223_110 ?_
      refine ev_iadd od_223_111 ?_
      refine ev_iload od_223_112 rfl ?_
      refine ev_iconst (v := (3 : Int32)) od_223_114 (by decide) ?_
      refine ev_irem od_223_115 (by decide) ?_
      refine ev_iadd od_223_116 ?_
      refine ev_fg (lv0 := [some (.ref 42), some (.int x1), some (.int x2), some (.int x3), none]) (ov_le_s (ov_le_s (ov_le_s (ov_le_s (ov_le_n (ov_le_e)))))) ?_
      exact t223_117_37  h hk
    · rw [if_neg hc10] at h
      refine ev_sipush (v := (200 : Int32)) od_223_80 (by decide) ?_
      refine ev_bipush (v := (10 : Int32)) od_223_83 (by decide) ?_
      refine ev_iload od_223_85 rfl ?_
      refine ev_iconst (v := (4 : Int32)) od_223_87 (by decide) ?_
      refine ev_idiv od_223_88 (by decide) ?_
      refine ev_imul od_223_89 ?_
      refine ev_iadd od_223_90 ?_
      refine ev_iload od_223_91 rfl ?_
      refine ev_iconst (v := (4 : Int32)) od_223_93 (by decide) ?_
      refine ev_irem od_223_94 (by decide) ?_
      refine ev_iadd od_223_95 ?_
      refine ev_goto (t := 117) od_223_96 (by decide) ?_
      refine ev_fg (lv0 := [some (.ref 42), some (.int x1), some (.int x2), some (.int x3), none]) (ov_le_s (ov_le_s (ov_le_s (ov_le_s (ov_le_n (ov_le_e)))))) ?_
      exact t223_117_37  h hk
def f223 (S : ov_S) (G : ov_L2) (x1 : Int32) : Option (Int32 × ov_S × ov_L2) :=
  (f144 (x1).toInt64 (1 : Int64) (30 : Int64)).bind fun y2 => (if y2 = 0 then some ((-2 : Int32), (ov_up S 42 0 (0 : Int32)), G) else (f158 55 56 (ov_up S 42 0 (0 : Int32)) (12 : Int32)).bind fun y3 => ((ov_lp (fun s => b223_37 x1 s.1 s.2.1 s.2.2.1 s.2.2.2) 2000 ((0 : Int32), (0 : Int32), y3, G)).bind fun e12 => some (e12.1, e12.2.1, e12.2.2)))
theorem t223 {L : Nat} {S : ov_S} {G : ov_L2} {x1 : Int32} {P : Option Value → ov_S → ov_L2 → Prop}  {out : Int32 × ov_S × ov_L2} (h : f223 S G x1 = some out) (hP : P (some (.int out.1)) out.2.1 out.2.2) : ov_J L 5 223 0 [some (.ref 42), some (.int x1), none, none, none] [] S G P := by
  unfold f223 at h
  refine ev_aload_n od_223_0 rfl ?_
  refine ev_iconst (v := (0 : Int32)) od_223_1 (by decide) ?_
  refine ev_pf op_223_2 oO_42 rfl rfl ?_
  refine ev_iload_n od_223_5 rfl ?_
  refine ev_i2l od_223_6 ?_
  refine ev_lconst (v := (1 : Int64)) od_223_7 (by decide) ?_
  obtain ⟨w1, hw1⟩ := ok_223_8
  refine ev_ldc2_w od_223_8 hw1 ?_
  obtain ⟨y2, hy2, h⟩ := ov_bd h
  try dsimp only at h
  refine ev_csi (y := 144) (n := 3) (as := [.long (x1).toInt64, .long (1 : Int64), .long (30 : Int64)]) (rest := []) (dc := 1) oc_223_11 rfl rfl rfl rfl rfl (by decide) (R144  hy2) ?_
  refine ev_if_ne (t := 20) od_223_14 (by decide) (fun hc13 => ?_) (fun hc13 => ?_)
  · rw [if_neg hc13] at h
    refine ev_aload_n od_223_20 rfl ?_
    refine ev_gf (v := .ref 55) og_223_21 oO_42 rfl ?_
    refine ev_aload_n od_223_24 rfl ?_
    refine ev_gf (v := .ref 56) og_223_25 oO_42 rfl ?_
    refine ev_bipush (v := (12 : Int32)) od_223_28 (by decide) ?_
    obtain ⟨y3, hy3, h⟩ := ov_bd h
    try dsimp only at h
    refine ev_csv (y := 158) (n := 3) (as := [.ref 55, .ref 56, .int (12 : Int32)]) (rest := []) (dc := 1) oc_223_30 rfl rfl rfl rfl rfl (by decide) (R158 oA_55 oA_56 hy3) ?_
    refine ev_iconst (v := (0 : Int32)) od_223_33 (by decide) ?_
    refine ev_istore_n (lv1 := [some (.ref 42), some (.int x1), some (.int (0 : Int32)), none, none]) od_223_34 rfl rfl ?_
    refine ev_iconst (v := (0 : Int32)) od_223_35 (by decide) ?_
    refine ev_istore_n (lv1 := [some (.ref 42), some (.int x1), some (.int (0 : Int32)), some (.int (0 : Int32)), none]) od_223_36 rfl rfl ?_
    obtain ⟨e12, he12, h⟩ := ov_bd h
    try dsimp only at h
    refine ov_lp_S (body := (fun s => b223_37 x1 s.1 s.2.1 s.2.2.1 s.2.2.2)) (head := (fun s => ov_J L 5 223 37 [some (.ref 42), some (.int x1), some (.int s.1), some (.int s.2.1), none] [] s.2.2.1 s.2.2.2 P)) (exit := (fun e => ov_J L 5 223 141 [none, none, some (.int e.1), none, none] [] e.2.1 e.2.2 P)) (fun s r hb hk => bt223_37  hb hk) 2000 ((0 : Int32), (0 : Int32), y3, G) e12 he12 ?_
    show ov_J L 5 223 141 [none, none, some (.int e12.1), none, none] [] e12.2.1 e12.2.2 P
    refine ev_iload_n od_223_141 rfl ?_
    cases h
    exact ev_iret od_223_142 rfl hP
  · rw [if_pos hc13] at h
    refine ev_bipush (v := (-2 : Int32)) od_223_17 (by decide) ?_
    cases h
    exact ev_iret od_223_19 rfl hP
theorem R223 {L : Nat} {S : ov_S} {G : ov_L2} {x1 : Int32}  {out : Int32 × ov_S × ov_L2} (h : f223 S G x1 = some out) : ov_R L 6 223 [.ref 42, .int x1] S G (some (.int out.1)) out.2.1 out.2.2 :=
  ov_Rof (t223  h ⟨rfl, rfl, rfl⟩)
-- 95 OE.place
def f95 (S : ov_S) (x1 : Int32) (x2 : Int32) : Option (Int32 × ov_S) :=
  (f29 4 S x1).bind fun y1 => (if y1 = 0 then some ((-1 : Int32), S) else (if x2 < 0 then some ((-2 : Int32), S) else (if x2 ≤ (1 : Int32) then (f34 18 S x1).bind fun y2 => (if y2 = 0 then some ((-3 : Int32), S) else (f96 S x1).bind fun y3 => (if x2 = 0 then some (y3.1, y3.2) else (f98 y3.2 x1 y3.1).bind fun y4 => some (y4.1, y4.2))) else some ((-2 : Int32), S))))
theorem t95 {L : Nat} {S : ov_S} {G : ov_L2} {x1 : Int32} {x2 : Int32} {P : Option Value → ov_S → ov_L2 → Prop}  {out : Int32 × ov_S} (h : f95 S x1 x2 = some out) (hP : P (some (.int out.1)) out.2 G) : ov_J L 6 95 0 [some (.ref 1), some (.int x1), some (.int x2), none] [] S G P := by
  unfold f95 at h
  refine ev_aload_n od_95_0 rfl ?_
  refine ev_gf (v := .ref 4) og_95_1 oO_1 rfl ?_
  refine ev_iload_n od_95_4 rfl ?_
  obtain ⟨y1, hy1, h⟩ := ov_bd h
  try dsimp only at h
  refine ev_cvi (y := 29) (n := 1) (a := 4) (c := 2) (as := [.int x1]) (rest := []) (dc := 1) oc_95_5 rfl rfl rfl oO_4 rfl rfl rfl rfl (by decide) (R29 oP_4 hy1) ?_
  refine ev_if_ne (t := 13) od_95_8 (by decide) (fun hc9 => ?_) (fun hc9 => ?_)
  · rw [if_neg hc9] at h
    refine ev_iload_n od_95_13 rfl ?_
    refine ev_if_lt (t := 22) od_95_14 (by decide) (fun hc8 => ?_) (fun hc8 => ?_)
    · rw [if_pos hc8] at h
      refine ev_bipush (v := (-2 : Int32)) od_95_22 (by decide) ?_
      cases h
      exact ev_iret od_95_24 rfl hP
    · rw [if_neg hc8] at h
      refine ev_iload_n od_95_17 rfl ?_
      refine ev_iconst (v := (1 : Int32)) od_95_18 (by decide) ?_
      refine ev_icmp_le (t := 25) od_95_19 (by decide) (fun hc7 => ?_) (fun hc7 => ?_)
      · rw [if_pos hc7] at h
        refine ev_aload_n od_95_25 rfl ?_
        refine ev_gf (v := .ref 18) og_95_26 oO_1 rfl ?_
        refine ev_iload_n od_95_29 rfl ?_
        obtain ⟨y2, hy2, h⟩ := ov_bd h
        try dsimp only at h
        refine ev_cvi (y := 34) (n := 1) (a := 18) (c := 3) (as := [.int x1]) (rest := []) (dc := 3) oc_95_30 rfl rfl rfl oO_18 rfl rfl rfl rfl (by decide) (R34 oS_18 hy2) ?_
        refine ev_if_ne (t := 39) od_95_33 (by decide) (fun hc6 => ?_) (fun hc6 => ?_)
        · rw [if_neg hc6] at h
          refine ev_aload_n od_95_39 rfl ?_
          refine ev_iload_n od_95_40 rfl ?_
          obtain ⟨y3, hy3, h⟩ := ov_bd h
          try dsimp only at h
          refine ev_cvi (y := 96) (n := 1) (a := 1) (c := 0) (as := [.int x1]) (rest := []) (dc := 6) oc_95_41 rfl rfl rfl oO_1 rfl rfl rfl rfl (by decide) (R96  hy3) ?_
          refine ev_istore_n (lv1 := [some (.ref 1), some (.int x1), some (.int x2), some (.int y3.1)]) od_95_44 rfl rfl ?_
          refine ev_iload_n od_95_45 rfl ?_
          refine ev_if_ne (t := 53) od_95_46 (by decide) (fun hc5 => ?_) (fun hc5 => ?_)
          · rw [if_neg hc5] at h
            refine ev_aload_n od_95_53 rfl ?_
            refine ev_iload_n od_95_54 rfl ?_
            refine ev_iload_n od_95_55 rfl ?_
            obtain ⟨y4, hy4, h⟩ := ov_bd h
            try dsimp only at h
            refine ev_cvi (y := 98) (n := 2) (a := 1) (c := 0) (as := [.int x1, .int y3.1]) (rest := []) (dc := 5) oc_95_56 rfl rfl rfl oO_1 rfl rfl rfl rfl (by decide) (R98  hy4) ?_
            cases h
            exact ev_iret od_95_59 rfl hP
          · rw [if_pos hc5] at h
            refine ev_iload_n od_95_49 rfl ?_
            refine ev_goto (t := 59) od_95_50 (by decide) ?_
            cases h
            exact ev_iret od_95_59 rfl hP
        · rw [if_pos hc6] at h
          refine ev_bipush (v := (-3 : Int32)) od_95_36 (by decide) ?_
          cases h
          exact ev_iret od_95_38 rfl hP
      · rw [if_neg hc7] at h
        refine ev_bipush (v := (-2 : Int32)) od_95_22 (by decide) ?_
        cases h
        exact ev_iret od_95_24 rfl hP
  · rw [if_pos hc9] at h
    refine ev_iconst (v := (-1 : Int32)) od_95_11 (by decide) ?_
    cases h
    exact ev_iret od_95_12 rfl hP
theorem R95 {L : Nat} {S : ov_S} {G : ov_L2} {x1 : Int32} {x2 : Int32}  {out : Int32 × ov_S} (h : f95 S x1 x2 = some out) : ov_R L 7 95 [.ref 1, .int x1, .int x2] S G (some (.int out.1)) out.2 G :=
  ov_Rof (t95  h ⟨rfl, rfl, rfl⟩)
-- 114 OE.judge
def b114_45 (x1 : Int32) (x2 : Int64) (x4 : Int32) (S : ov_S) : Option ((Int32 × ov_S) ⊕ ((ov_S) ⊕ (Int32 × ov_S))) :=
  (if x1 ≤ x4 then some (.inr (.inl S)) else (f116 x2 ((x1 - (1 : Int32)) - x4)).bind fun y3 => (f117 21 S (y3 / (100 : Int32)) ((y3 / (10 : Int32)) - (y3 / (10 : Int32)) / (10 : Int32) * (10 : Int32)) (y3 - y3 / (10 : Int32) * (10 : Int32))).bind fun y4 => (if y4.1 = 0 then some (.inr (.inr (x4, y4.2))) else some (.inl ((x4 + (1 : Int32)), y4.2))))
theorem bt114_45 {L : Nat} {S : ov_S} {G : ov_L2} {x1 : Int32} {x2 : Int64} {x4 : Int32} {P : Option Value → ov_S → ov_L2 → Prop}  {out : (Int32 × ov_S) ⊕ ((ov_S) ⊕ (Int32 × ov_S))} (h : b114_45 x1 x2 x4 S = some out) (hk : ov_sm (σ := Int32 × ov_S) (ε := ((ov_S) ⊕ (Int32 × ov_S))) (fun s => ov_J L 6 114 45 [some (.ref 1), some (.int x1), some (.long x2), none, some (.int s.1), none] [] s.2 G P) (ov_sm (fun e => ov_J L 6 114 100 [none, none, none, none, none, none] [] e G P) (fun t => P (some (.int t.1)) t.2 G)) out) : ov_J L 6 114 45 [some (.ref 1), some (.int x1), some (.long x2), none, some (.int x4), none] [] S G P := by
  unfold b114_45 at h
  refine ev_iload od_114_45 rfl ?_
  refine ev_iload_n od_114_47 rfl ?_
  refine ev_icmp_ge (t := 100) od_114_48 (by decide) (fun hc6 => ?_) (fun hc6 => ?_)
  · rw [if_pos hc6] at h
    cases h
    refine ev_fg (lv0 := [none, none, none, none, none, none]) (ov_le_n (ov_le_n (ov_le_n (ov_le_n (ov_le_n (ov_le_n (ov_le_e))))))) ?_
    exact hk
  · rw [if_neg hc6] at h
    refine ev_lload_n od_114_51 rfl ?_
    refine ev_iload_n od_114_52 rfl ?_
    refine ev_iconst (v := (1 : Int32)) od_114_53 (by decide) ?_
    refine ev_isub od_114_54 ?_
    refine ev_iload od_114_55 rfl ?_
    refine ev_isub od_114_57 ?_
    obtain ⟨y3, hy3, h⟩ := ov_bd h
    try dsimp only at h
    refine ev_csi (y := 116) (n := 2) (as := [.long x2, .int ((x1 - (1 : Int32)) - x4)]) (rest := []) (dc := 1) oc_114_58 rfl rfl rfl rfl rfl (by decide) (R116  hy3) ?_
    refine ev_istore (lv1 := [some (.ref 1), some (.int x1), some (.long x2), none, some (.int x4), some (.int y3)]) od_114_61 rfl rfl ?_
    refine ev_aload_n od_114_63 rfl ?_
    refine ev_gf (v := .ref 21) og_114_64 oO_1 rfl ?_
    refine ev_iload od_114_67 rfl ?_
    refine ev_bipush (v := (100 : Int32)) od_114_69 (by decide) ?_
    refine ev_idiv od_114_71 (by decide) ?_
    refine ev_iload od_114_72 rfl ?_
    refine ev_bipush (v := (10 : Int32)) od_114_74 (by decide) ?_
    refine ev_idiv od_114_76 (by decide) ?_
    refine ev_bipush (v := (10 : Int32)) od_114_77 (by decide) ?_
    refine ev_irem od_114_79 (by decide) ?_
    refine ev_iload od_114_80 rfl ?_
    refine ev_bipush (v := (10 : Int32)) od_114_82 (by decide) ?_
    refine ev_irem od_114_84 (by decide) ?_
    obtain ⟨y4, hy4, h⟩ := ov_bd h
    try dsimp only at h
    refine ev_cvi (y := 117) (n := 3) (a := 21) (c := 3) (as := [.int (y3 / (100 : Int32)), .int ((y3 / (10 : Int32)) - (y3 / (10 : Int32)) / (10 : Int32) * (10 : Int32)), .int (y3 - y3 / (10 : Int32) * (10 : Int32))]) (rest := []) (dc := 6) oc_114_85 rfl rfl rfl oO_21 rfl rfl rfl rfl (by decide) (R117 oS_21 hy4) ?_
    refine ev_if_ne (t := 94) od_114_88 (by decide) (fun hc5 => ?_) (fun hc5 => ?_)
    · rw [if_neg hc5] at h
      refine ev_iinc (v := (x4 + (1 : Int32))) (lv1 := [some (.ref 1), some (.int x1), some (.long x2), none, some (.int (x4 + (1 : Int32))), some (.int y3)]) od_114_94 rfl rfl rfl ?_
      refine ev_goto (t := 45) od_114_97 (by decide) ?_
      cases h
      refine ev_fg (lv0 := [some (.ref 1), some (.int x1), some (.long x2), none, some (.int (x4 + (1 : Int32))), none]) (ov_le_s (ov_le_s (ov_le_s (ov_le_n (ov_le_s (ov_le_n (ov_le_e))))))) ?_
      exact hk
    · rw [if_pos hc5] at h
      refine ev_iload od_114_91 rfl ?_
      cases h
      exact ev_iret od_114_93 rfl hk
def f114 (S : ov_S) (x1 : Int32) (x2 : Int64) : Option (Int32 × ov_S) :=
  (if x1 < (1 : Int32) then some ((-2 : Int32), S) else (if (4 : Int32) < x1 then some ((-2 : Int32), S) else (if (lg_cmp x2 (0 : Int64)) < 0 then some ((-2 : Int32), S) else (f115 (1000 : Int32) x1).bind fun y1 => (if (lg_cmp x2 y1) < 0 then (f97 21 18 S).bind fun y2 => ((ov_lp (fun s => b114_45 x1 x2 s.1 s.2) 2000 ((0 : Int32), y2)).bind fun e7 => match e7 with | .inl e8 => some ((-9 : Int32), e8) | .inr t => some t) else some ((-2 : Int32), S)))))
theorem t114 {L : Nat} {S : ov_S} {G : ov_L2} {x1 : Int32} {x2 : Int64} {P : Option Value → ov_S → ov_L2 → Prop}  {out : Int32 × ov_S} (h : f114 S x1 x2 = some out) (hP : P (some (.int out.1)) out.2 G) : ov_J L 6 114 0 [some (.ref 1), some (.int x1), some (.long x2), none, none, none] [] S G P := by
  unfold f114 at h
  refine ev_iload_n od_114_0 rfl ?_
  refine ev_iconst (v := (1 : Int32)) od_114_1 (by decide) ?_
  refine ev_icmp_lt (t := 28) od_114_2 (by decide) (fun hc12 => ?_) (fun hc12 => ?_)
  · rw [if_pos hc12] at h
    refine ev_bipush (v := (-2 : Int32)) od_114_28 (by decide) ?_
    cases h
    exact ev_iret od_114_30 rfl hP
  · rw [if_neg hc12] at h
    refine ev_iload_n od_114_5 rfl ?_
    refine ev_iconst (v := (4 : Int32)) od_114_6 (by decide) ?_
    refine ev_icmp_gt (t := 28) od_114_7 (by decide) (fun hc11 => ?_) (fun hc11 => ?_)
    · rw [if_pos hc11] at h
      refine ev_bipush (v := (-2 : Int32)) od_114_28 (by decide) ?_
      cases h
      exact ev_iret od_114_30 rfl hP
    · rw [if_neg hc11] at h
      refine ev_lload_n od_114_10 rfl ?_
      refine ev_lconst (v := (0 : Int64)) od_114_11 (by decide) ?_
      refine ev_lcmp od_114_12 ?_
      refine ev_if_lt (t := 28) od_114_13 (by decide) (fun hc10 => ?_) (fun hc10 => ?_)
      · rw [if_pos hc10] at h
        refine ev_bipush (v := (-2 : Int32)) od_114_28 (by decide) ?_
        cases h
        exact ev_iret od_114_30 rfl hP
      · rw [if_neg hc10] at h
        refine ev_lload_n od_114_16 rfl ?_
        refine ev_sipush (v := (1000 : Int32)) od_114_17 (by decide) ?_
        refine ev_iload_n od_114_20 rfl ?_
        obtain ⟨y1, hy1, h⟩ := ov_bd h
        try dsimp only at h
        refine ev_csl (y := 115) (n := 2) (as := [.int (1000 : Int32), .int x1]) (rest := [.long x2]) (dc := 1) oc_114_21 rfl rfl rfl rfl rfl (by decide) (R115  hy1) ?_
        refine ev_lcmp od_114_24 ?_
        refine ev_if_lt (t := 31) od_114_25 (by decide) (fun hc9 => ?_) (fun hc9 => ?_)
        · rw [if_pos hc9] at h
          refine ev_aload_n od_114_31 rfl ?_
          refine ev_gf (v := .ref 21) og_114_32 oO_1 rfl ?_
          refine ev_aload_n od_114_35 rfl ?_
          refine ev_gf (v := .ref 18) og_114_36 oO_1 rfl ?_
          obtain ⟨y2, hy2, h⟩ := ov_bd h
          try dsimp only at h
          refine ev_cvv (y := 97) (n := 1) (a := 21) (c := 3) (as := [.ref 18]) (rest := []) (dc := 1) oc_114_39 rfl rfl rfl oO_21 rfl rfl rfl rfl (by decide) (R97 oS_21 oS_18 hy2) ?_
          refine ev_iconst (v := (0 : Int32)) od_114_42 (by decide) ?_
          refine ev_istore (lv1 := [some (.ref 1), some (.int x1), some (.long x2), none, some (.int (0 : Int32)), none]) od_114_43 rfl rfl ?_
          obtain ⟨e7, he7, h⟩ := ov_bd h
          try dsimp only at h
          refine ov_lp_S (body := (fun s => b114_45 x1 x2 s.1 s.2)) (head := (fun s => ov_J L 6 114 45 [some (.ref 1), some (.int x1), some (.long x2), none, some (.int s.1), none] [] s.2 G P)) (exit := (ov_sm (fun e => ov_J L 6 114 100 [none, none, none, none, none, none] [] e G P) (fun t => P (some (.int t.1)) t.2 G))) (fun s r hb hk => bt114_45  hb hk) 2000 ((0 : Int32), y2) e7 he7 ?_
          rcases e7 with e8 | t
          · try dsimp only at h
            show ov_J L 6 114 100 [none, none, none, none, none, none] [] e8 G P
            refine ev_bipush (v := (-9 : Int32)) od_114_100 (by decide) ?_
            cases h
            exact ev_iret od_114_102 rfl hP
          · cases h
            exact hP
        · rw [if_neg hc9] at h
          refine ev_bipush (v := (-2 : Int32)) od_114_28 (by decide) ?_
          cases h
          exact ev_iret od_114_30 rfl hP
theorem R114 {L : Nat} {S : ov_S} {G : ov_L2} {x1 : Int32} {x2 : Int64}  {out : Int32 × ov_S} (h : f114 S x1 x2 = some out) : ov_R L 7 114 [.ref 1, .int x1, .long x2] S G (some (.int out.1)) out.2 G :=
  ov_Rof (t114  h ⟨rfl, rfl, rfl⟩)
-- 130 OE$Rests.look
def b130_20 (x1 : Int32) (x2 : Int32) (x3 : Int32) (x4 : Int32) (x5 : Int32) (S : ov_S) : Option ((Int32 × ov_S) ⊕ (ov_S)) :=
  (if x3 ≤ x5 then some (.inr S) else (f131 S x1 x2 x4 x5).bind fun y1 => some (.inl ((x5 + (1 : Int32)), y1)))
theorem bt130_20 {L : Nat} {S : ov_S} {G : ov_L2} {x1 : Int32} {x2 : Int32} {x3 : Int32} {x4 : Int32} {x5 : Int32} {P : Option Value → ov_S → ov_L2 → Prop}  {out : (Int32 × ov_S) ⊕ (ov_S)} (h : b130_20 x1 x2 x3 x4 x5 S = some out) (hk : ov_sm (σ := Int32 × ov_S) (ε := (ov_S)) (fun s => ov_J L 6 130 20 [some (.ref 32), some (.int x1), some (.int x2), some (.int x3), some (.int x4), some (.int s.1)] [] s.2 G P) (fun e => ov_J L 6 130 42 [some (.ref 32), some (.int x1), some (.int x2), some (.int x3), some (.int x4), none] [] e G P) out) : ov_J L 6 130 20 [some (.ref 32), some (.int x1), some (.int x2), some (.int x3), some (.int x4), some (.int x5)] [] S G P := by
  unfold b130_20 at h
  refine ev_iload od_130_20 rfl ?_
  refine ev_iload_n od_130_22 rfl ?_
  refine ev_icmp_ge (t := 42) od_130_23 (by decide) (fun hc2 => ?_) (fun hc2 => ?_)
  · rw [if_pos hc2] at h
    cases h
    refine ev_fg (lv0 := [some (.ref 32), some (.int x1), some (.int x2), some (.int x3), some (.int x4), none]) (ov_le_s (ov_le_s (ov_le_s (ov_le_s (ov_le_s (ov_le_n (ov_le_e))))))) ?_
    exact hk
  · rw [if_neg hc2] at h
    refine ev_aload_n od_130_26 rfl ?_
    refine ev_iload_n od_130_27 rfl ?_
    refine ev_iload_n od_130_28 rfl ?_
    refine ev_iload od_130_29 rfl ?_
    refine ev_iload od_130_31 rfl ?_
    obtain ⟨y1, hy1, h⟩ := ov_bd h
    try dsimp only at h
    refine ev_cvv (y := 131) (n := 4) (a := 32) (c := 7) (as := [.int x1, .int x2, .int x4, .int x5]) (rest := []) (dc := 6) oc_130_33 rfl rfl rfl oO_32 rfl rfl rfl rfl (by decide) (R131  hy1) ?_
    refine ev_iinc (v := (x5 + (1 : Int32))) (lv1 := [some (.ref 32), some (.int x1), some (.int x2), some (.int x3), some (.int x4), some (.int (x5 + (1 : Int32)))]) od_130_36 rfl rfl rfl ?_
    refine ev_goto (t := 20) od_130_39 (by decide) ?_
    cases h
    exact hk
def b130_11 (x1 : Int32) (x2 : Int32) (x3 : Int32) (x4 : Int32) (S : ov_S) : Option ((Int32 × ov_S) ⊕ (ov_S)) :=
  (if x3 ≤ x4 then some (.inr S) else ((ov_lp (fun s => b130_20 x1 x2 x3 x4 s.1 s.2) 2000 ((0 : Int32), S)).bind fun e3 => some (.inl ((x4 + (1 : Int32)), e3))))
theorem bt130_11 {L : Nat} {S : ov_S} {G : ov_L2} {x1 : Int32} {x2 : Int32} {x3 : Int32} {x4 : Int32} {P : Option Value → ov_S → ov_L2 → Prop}  {out : (Int32 × ov_S) ⊕ (ov_S)} (h : b130_11 x1 x2 x3 x4 S = some out) (hk : ov_sm (σ := Int32 × ov_S) (ε := (ov_S)) (fun s => ov_J L 6 130 11 [some (.ref 32), some (.int x1), some (.int x2), some (.int x3), some (.int s.1), none] [] s.2 G P) (fun e => ov_J L 6 130 48 [some (.ref 32), none, none, some (.int x3), none, none] [] e G P) out) : ov_J L 6 130 11 [some (.ref 32), some (.int x1), some (.int x2), some (.int x3), some (.int x4), none] [] S G P := by
  unfold b130_11 at h
  refine ev_iload od_130_11 rfl ?_
  refine ev_iload_n od_130_13 rfl ?_
  refine ev_icmp_ge (t := 48) od_130_14 (by decide) (fun hc4 => ?_) (fun hc4 => ?_)
  · rw [if_pos hc4] at h
    cases h
    refine ev_fg (lv0 := [some (.ref 32), none, none, some (.int x3), none, none]) (ov_le_s (ov_le_n (ov_le_n (ov_le_s (ov_le_n (ov_le_n (ov_le_e))))))) ?_
    exact hk
  · rw [if_neg hc4] at h
    refine ev_iconst (v := (0 : Int32)) od_130_17 (by decide) ?_
    refine ev_istore (lv1 := [some (.ref 32), some (.int x1), some (.int x2), some (.int x3), some (.int x4), some (.int (0 : Int32))]) od_130_18 rfl rfl ?_
    obtain ⟨e3, he3, h⟩ := ov_bd h
    try dsimp only at h
    refine ov_lp_S (body := (fun s => b130_20 x1 x2 x3 x4 s.1 s.2)) (head := (fun s => ov_J L 6 130 20 [some (.ref 32), some (.int x1), some (.int x2), some (.int x3), some (.int x4), some (.int s.1)] [] s.2 G P)) (exit := (fun e => ov_J L 6 130 42 [some (.ref 32), some (.int x1), some (.int x2), some (.int x3), some (.int x4), none] [] e G P)) (fun s r hb hk => bt130_20  hb hk) 2000 ((0 : Int32), S) e3 he3 ?_
    show ov_J L 6 130 42 [some (.ref 32), some (.int x1), some (.int x2), some (.int x3), some (.int x4), none] [] e3 G P
    refine ev_iinc (v := (x4 + (1 : Int32))) (lv1 := [some (.ref 32), some (.int x1), some (.int x2), some (.int x3), some (.int (x4 + (1 : Int32))), none]) od_130_42 rfl rfl rfl ?_
    refine ev_goto (t := 11) od_130_45 (by decide) ?_
    cases h
    exact hk
def f130_124_71 (S : ov_S) (x3 : Int32) (x4 : Int32) (x5 : Int32) : Option ((Int32 × ov_S) ⊕ (ov_S)) :=
  some (.inl ((x5 + (1 : Int32)), S))
theorem t130_124_71 {L : Nat} {S : ov_S} {G : ov_L2} {x3 : Int32} {x4 : Int32} {x5 : Int32} {P : Option Value → ov_S → ov_L2 → Prop}  {out : (Int32 × ov_S) ⊕ (ov_S)} (h : f130_124_71 S x3 x4 x5 = some out) (hk : ov_sm (σ := Int32 × ov_S) (ε := (ov_S)) (fun s => ov_J L 6 130 71 [some (.ref 32), none, none, some (.int x3), some (.int x4), some (.int s.1)] [] s.2 G P) (fun e => ov_J L 6 130 130 [some (.ref 32), none, none, some (.int x3), some (.int x4), none] [] e G P) out) : ov_J L 6 130 124 [some (.ref 32), none, none, some (.int x3), some (.int x4), some (.int x5)] [] S G P := by
  unfold f130_124_71 at h
  refine ev_iinc (v := (x5 + (1 : Int32))) (lv1 := [some (.ref 32), none, none, some (.int x3), some (.int x4), some (.int (x5 + (1 : Int32)))]) od_130_124 rfl rfl rfl ?_
  refine ev_goto (t := 71) od_130_127 (by decide) ?_
  cases h
  exact hk
def f130_111_71 (S : ov_S) (x3 : Int32) (x4 : Int32) (x5 : Int32) (s0 : Int32) : Option ((Int32 × ov_S) ⊕ (ov_S)) :=
  f130_124_71 (ov_up (ov_up S 32 6 s0) 32 5 (((ov_up S 32 6 s0) 32 5) + (1 : Int32))) x3 x4 x5
theorem t130_111_71 {L : Nat} {S : ov_S} {G : ov_L2} {x3 : Int32} {x4 : Int32} {x5 : Int32} {s0 : Int32} {P : Option Value → ov_S → ov_L2 → Prop}  {out : (Int32 × ov_S) ⊕ (ov_S)} (h : f130_111_71 S x3 x4 x5 s0 = some out) (hk : ov_sm (σ := Int32 × ov_S) (ε := (ov_S)) (fun s => ov_J L 6 130 71 [some (.ref 32), none, none, some (.int x3), some (.int x4), some (.int s.1)] [] s.2 G P) (fun e => ov_J L 6 130 130 [some (.ref 32), none, none, some (.int x3), some (.int x4), none] [] e G P) out) : ov_J L 6 130 111 [some (.ref 32), none, none, some (.int x3), some (.int x4), some (.int x5)] [.int s0, .ref 32] S G P := by
  unfold f130_111_71 at h
  refine ev_pf op_130_111 oO_32 rfl rfl ?_
  refine ev_aload_n od_130_114 rfl ?_
  refine ev_dup od_130_115 rfl ?_
  refine ev_gf (v := .int ((ov_up S 32 6 s0) 32 5)) og_130_116 oO_32 rfl ?_
  refine ev_iconst (v := (1 : Int32)) od_130_119 (by decide) ?_
  refine ev_iadd od_130_120 ?_
  refine ev_pf op_130_121 oO_32 rfl rfl ?_
  exact t130_124_71  h hk
def b130_71 (x3 : Int32) (x4 : Int32) (x5 : Int32) (S : ov_S) : Option ((Int32 × ov_S) ⊕ (ov_S)) :=
  (if x3 ≤ x5 then some (.inr S) else (f133 S x4 x5).bind fun y6 => (if y6 = 0 then f130_124_71 S x3 x4 x5 else (if (S 32 5) = 0 then f130_111_71 S x3 x4 x5 (((10 : Int32) * x4) + x5) else f130_111_71 S x3 x4 x5 (S 32 6))))
theorem bt130_71 {L : Nat} {S : ov_S} {G : ov_L2} {x3 : Int32} {x4 : Int32} {x5 : Int32} {P : Option Value → ov_S → ov_L2 → Prop}  {out : (Int32 × ov_S) ⊕ (ov_S)} (h : b130_71 x3 x4 x5 S = some out) (hk : ov_sm (σ := Int32 × ov_S) (ε := (ov_S)) (fun s => ov_J L 6 130 71 [some (.ref 32), none, none, some (.int x3), some (.int x4), some (.int s.1)] [] s.2 G P) (fun e => ov_J L 6 130 130 [some (.ref 32), none, none, some (.int x3), some (.int x4), none] [] e G P) out) : ov_J L 6 130 71 [some (.ref 32), none, none, some (.int x3), some (.int x4), some (.int x5)] [] S G P := by
  unfold b130_71 at h
  refine ev_iload od_130_71 rfl ?_
  refine ev_iload_n od_130_73 rfl ?_
  refine ev_icmp_ge (t := 130) od_130_74 (by decide) (fun hc9 => ?_) (fun hc9 => ?_)
  · rw [if_pos hc9] at h
    cases h
    refine ev_fg (lv0 := [some (.ref 32), none, none, some (.int x3), some (.int x4), none]) (ov_le_s (ov_le_n (ov_le_n (ov_le_s (ov_le_s (ov_le_n (ov_le_e))))))) ?_
    exact hk
  · rw [if_neg hc9] at h
    refine ev_aload_n od_130_77 rfl ?_
    refine ev_iload od_130_78 rfl ?_
    refine ev_iload od_130_80 rfl ?_
    obtain ⟨y6, hy6, h⟩ := ov_bd h
    try dsimp only at h
    refine ev_cvi (y := 133) (n := 2) (a := 32) (c := 7) (as := [.int x4, .int x5]) (rest := []) (dc := 1) oc_130_82 rfl rfl rfl oO_32 rfl rfl rfl rfl (by decide) (R133  hy6) ?_
    refine ev_if_eq (t := 124) od_130_85 (by decide) (fun hc8 => ?_) (fun hc8 => ?_)
    · rw [if_pos hc8] at h
      exact t130_124_71  h hk
    · rw [if_neg hc8] at h
      refine ev_aload_n od_130_88 rfl ?_
      refine ev_aload_n od_130_89 rfl ?_
      refine ev_gf (v := .int (S 32 5)) og_130_90 oO_32 rfl ?_
      refine ev_if_ne (t := 107) od_130_93 (by decide) (fun hc7 => ?_) (fun hc7 => ?_)
      · rw [if_neg hc7] at h
        refine ev_aload_n od_130_107 rfl ?_
        refine ev_gf (v := .int (S 32 6)) og_130_108 oO_32 rfl ?_
        exact t130_111_71  h hk
      · rw [if_pos hc7] at h
        refine ev_bipush (v := (10 : Int32)) od_130_96 (by decide) ?_
        refine ev_iload od_130_98 rfl ?_
        refine ev_imul od_130_100 ?_
        refine ev_iload od_130_101 rfl ?_
        refine ev_iadd od_130_103 ?_
        refine ev_goto (t := 111) od_130_104 (by decide) ?_
        exact t130_111_71  h hk
def b130_62 (x3 : Int32) (x4 : Int32) (S : ov_S) : Option ((Int32 × ov_S) ⊕ (ov_S)) :=
  (if x3 ≤ x4 then some (.inr S) else ((ov_lp (fun s => b130_71 x3 x4 s.1 s.2) 2000 ((0 : Int32), S)).bind fun e10 => some (.inl ((x4 + (1 : Int32)), e10))))
theorem bt130_62 {L : Nat} {S : ov_S} {G : ov_L2} {x3 : Int32} {x4 : Int32} {P : Option Value → ov_S → ov_L2 → Prop}  {out : (Int32 × ov_S) ⊕ (ov_S)} (h : b130_62 x3 x4 S = some out) (hk : ov_sm (σ := Int32 × ov_S) (ε := (ov_S)) (fun s => ov_J L 6 130 62 [some (.ref 32), none, none, some (.int x3), some (.int s.1), none] [] s.2 G P) (fun e => ov_J L 6 130 136 [none, none, none, none, none, none] [] e G P) out) : ov_J L 6 130 62 [some (.ref 32), none, none, some (.int x3), some (.int x4), none] [] S G P := by
  unfold b130_62 at h
  refine ev_iload od_130_62 rfl ?_
  refine ev_iload_n od_130_64 rfl ?_
  refine ev_icmp_ge (t := 136) od_130_65 (by decide) (fun hc11 => ?_) (fun hc11 => ?_)
  · rw [if_pos hc11] at h
    cases h
    refine ev_fg (lv0 := [none, none, none, none, none, none]) (ov_le_n (ov_le_n (ov_le_n (ov_le_n (ov_le_n (ov_le_n (ov_le_e))))))) ?_
    exact hk
  · rw [if_neg hc11] at h
    refine ev_iconst (v := (0 : Int32)) od_130_68 (by decide) ?_
    refine ev_istore (lv1 := [some (.ref 32), none, none, some (.int x3), some (.int x4), some (.int (0 : Int32))]) od_130_69 rfl rfl ?_
    obtain ⟨e10, he10, h⟩ := ov_bd h
    try dsimp only at h
    refine ov_lp_S (body := (fun s => b130_71 x3 x4 s.1 s.2)) (head := (fun s => ov_J L 6 130 71 [some (.ref 32), none, none, some (.int x3), some (.int x4), some (.int s.1)] [] s.2 G P)) (exit := (fun e => ov_J L 6 130 130 [some (.ref 32), none, none, some (.int x3), some (.int x4), none] [] e G P)) (fun s r hb hk => bt130_71  hb hk) 2000 ((0 : Int32), S) e10 he10 ?_
    show ov_J L 6 130 130 [some (.ref 32), none, none, some (.int x3), some (.int x4), none] [] e10 G P
    refine ev_iinc (v := (x4 + (1 : Int32))) (lv1 := [some (.ref 32), none, none, some (.int x3), some (.int (x4 + (1 : Int32))), none]) od_130_130 rfl rfl rfl ?_
    refine ev_goto (t := 62) od_130_133 (by decide) ?_
    cases h
    exact hk
def f130 (S : ov_S) (x1 : Int32) (x2 : Int32) : Option (ov_S) :=
  ((ov_lp (fun s => b130_11 x1 x2 (S 4 0) s.1 s.2) 2000 ((0 : Int32), S)).bind fun e5 => ((ov_lp (fun s => b130_62 (S 4 0) s.1 s.2) 2000 ((0 : Int32), (ov_up (ov_up e5 32 5 (0 : Int32)) 32 6 (-9 : Int32)))).bind fun e12 => some e12))
theorem t130 {L : Nat} {S : ov_S} {G : ov_L2} {x1 : Int32} {x2 : Int32} {P : Option Value → ov_S → ov_L2 → Prop}  {out : ov_S} (h : f130 S x1 x2 = some out) (hP : P none out G) : ov_J L 6 130 0 [some (.ref 32), some (.int x1), some (.int x2), none, none, none] [] S G P := by
  unfold f130 at h
  refine ev_aload_n od_130_0 rfl ?_
  refine ev_gf (v := .ref 4) og_130_1 oO_32 rfl ?_
  refine ev_gf (v := .int (S 4 0)) og_130_4 oO_4 rfl ?_
  refine ev_istore_n (lv1 := [some (.ref 32), some (.int x1), some (.int x2), some (.int (S 4 0)), none, none]) od_130_7 rfl rfl ?_
  refine ev_iconst (v := (0 : Int32)) od_130_8 (by decide) ?_
  refine ev_istore (lv1 := [some (.ref 32), some (.int x1), some (.int x2), some (.int (S 4 0)), some (.int (0 : Int32)), none]) od_130_9 rfl rfl ?_
  obtain ⟨e5, he5, h⟩ := ov_bd h
  try dsimp only at h
  refine ov_lp_S (body := (fun s => b130_11 x1 x2 (S 4 0) s.1 s.2)) (head := (fun s => ov_J L 6 130 11 [some (.ref 32), some (.int x1), some (.int x2), some (.int (S 4 0)), some (.int s.1), none] [] s.2 G P)) (exit := (fun e => ov_J L 6 130 48 [some (.ref 32), none, none, some (.int (S 4 0)), none, none] [] e G P)) (fun s r hb hk => bt130_11  hb hk) 2000 ((0 : Int32), S) e5 he5 ?_
  show ov_J L 6 130 48 [some (.ref 32), none, none, some (.int (S 4 0)), none, none] [] e5 G P
  refine ev_aload_n od_130_48 rfl ?_
  refine ev_iconst (v := (0 : Int32)) od_130_49 (by decide) ?_
  refine ev_pf op_130_50 oO_32 rfl rfl ?_
  refine ev_aload_n od_130_53 rfl ?_
  refine ev_bipush (v := (-9 : Int32)) od_130_54 (by decide) ?_
  refine ev_pf op_130_56 oO_32 rfl rfl ?_
  refine ev_iconst (v := (0 : Int32)) od_130_59 (by decide) ?_
  refine ev_istore (lv1 := [some (.ref 32), none, none, some (.int (S 4 0)), some (.int (0 : Int32)), none]) od_130_60 rfl rfl ?_
  obtain ⟨e12, he12, h⟩ := ov_bd h
  try dsimp only at h
  refine ov_lp_S (body := (fun s => b130_62 (S 4 0) s.1 s.2)) (head := (fun s => ov_J L 6 130 62 [some (.ref 32), none, none, some (.int (S 4 0)), some (.int s.1), none] [] s.2 G P)) (exit := (fun e => ov_J L 6 130 136 [none, none, none, none, none, none] [] e G P)) (fun s r hb hk => bt130_62  hb hk) 2000 ((0 : Int32), (ov_up (ov_up e5 32 5 (0 : Int32)) 32 6 (-9 : Int32))) e12 he12 ?_
  show ov_J L 6 130 136 [none, none, none, none, none, none] [] e12 G P
  cases h
  exact ev_vret od_130_136 rfl hP
theorem R130 {L : Nat} {S : ov_S} {G : ov_L2} {x1 : Int32} {x2 : Int32}  {out : ov_S} (h : f130 S x1 x2 = some out) : ov_R L 7 130 [.ref 32, .int x1, .int x2] S G none out G :=
  ov_Rof (t130  h ⟨rfl, rfl, rfl⟩)
-- 197 OEModel.place
def f197 (S : ov_S) (x1 : Int32) (x2 : Int32) : Option (Int32 × ov_S) :=
  (f175 (ov_up S 42 0 (0 : Int32)) x1).bind fun y1 => (if y1 = 0 then (f144 (x2).toInt64 (0 : Int64) (1 : Int64)).bind fun y2 => (if y2 = 0 then some ((-2 : Int32), (ov_up S 42 0 (0 : Int32))) else ov_ck (ov_ibb ((0 : Int32) + x1) 12) ((if ((ov_up S 42 0 (0 : Int32)) 55 (((0 : Int32) + x1)).toNatClampNeg) = (-9 : Int32) then some ((-3 : Int32), (ov_up S 42 0 (0 : Int32))) else (f198 (ov_up S 42 0 (0 : Int32)) x1).bind fun y4 => (if x2 = 0 then some ((y4 42 36), y4) else some ((y4 42 37), y4))))) else some ((-1 : Int32), (ov_up S 42 0 (0 : Int32))))
theorem t197 {L : Nat} {S : ov_S} {G : ov_L2} {x1 : Int32} {x2 : Int32} {P : Option Value → ov_S → ov_L2 → Prop}  {out : Int32 × ov_S} (h : f197 S x1 x2 = some out) (hP : P (some (.int out.1)) out.2 G) : ov_J L 6 197 0 [some (.ref 42), some (.int x1), some (.int x2)] [] S G P := by
  unfold f197 at h
  refine ev_aload_n od_197_0 rfl ?_
  refine ev_iconst (v := (0 : Int32)) od_197_1 (by decide) ?_
  refine ev_pf op_197_2 oO_42 rfl rfl ?_
  refine ev_aload_n od_197_5 rfl ?_
  refine ev_iload_n od_197_6 rfl ?_
  obtain ⟨y1, hy1, h⟩ := ov_bd h
  try dsimp only at h
  refine ev_cvi (y := 175) (n := 1) (a := 42) (c := 8) (as := [.int x1]) (rest := []) (dc := 2) oc_197_7 rfl rfl rfl oO_42 rfl rfl rfl rfl (by decide) (R175  hy1) ?_
  refine ev_if_eq (t := 15) od_197_10 (by decide) (fun hc8 => ?_) (fun hc8 => ?_)
  · rw [if_pos hc8] at h
    refine ev_iload_n od_197_15 rfl ?_
    refine ev_i2l od_197_16 ?_
    refine ev_lconst (v := (0 : Int64)) od_197_17 (by decide) ?_
    refine ev_lconst (v := (1 : Int64)) od_197_18 (by decide) ?_
    obtain ⟨y2, hy2, h⟩ := ov_bd h
    try dsimp only at h
    refine ev_csi (y := 144) (n := 3) (as := [.long (x2).toInt64, .long (0 : Int64), .long (1 : Int64)]) (rest := []) (dc := 1) oc_197_19 rfl rfl rfl rfl rfl (by decide) (R144  hy2) ?_
    refine ev_if_ne (t := 28) od_197_22 (by decide) (fun hc7 => ?_) (fun hc7 => ?_)
    · rw [if_neg hc7] at h
      refine ev_aload_n od_197_28 rfl ?_
      refine ev_gf (v := .ref 55) og_197_29 oO_42 rfl ?_
      refine ev_iconst (v := (0 : Int32)) od_197_32 (by decide) ?_
      refine ev_iload_n od_197_33 rfl ?_
      refine ev_iadd od_197_34 ?_
      obtain ⟨bq3, h⟩ := ov_ck_ok h
      refine ev_iald od_197_35 oA_55 (ov_ibk bq3) ?_
      refine ev_bipush (v := (-9 : Int32)) od_197_36 (by decide) ?_
      refine ev_icmp_ne (t := 44) od_197_38 (by decide) (fun hc6 => ?_) (fun hc6 => ?_)
      · rw [if_neg hc6] at h
        refine ev_aload_n od_197_44 rfl ?_
        refine ev_iload_n od_197_45 rfl ?_
        obtain ⟨y4, hy4, h⟩ := ov_bd h
        try dsimp only at h
        refine ev_cvv (y := 198) (n := 1) (a := 42) (c := 8) (as := [.int x1]) (rest := []) (dc := 6) oc_197_46 rfl rfl rfl oO_42 rfl rfl rfl rfl (by decide) (R198  hy4) ?_
        refine ev_iload_n od_197_49 rfl ?_
        refine ev_if_ne (t := 60) od_197_50 (by decide) (fun hc5 => ?_) (fun hc5 => ?_)
        · rw [if_neg hc5] at h
          refine ev_aload_n od_197_60 rfl ?_
          refine ev_gf (v := .int (y4 42 37)) og_197_61 oO_42 rfl ?_
          cases h
          exact ev_iret od_197_64 rfl hP
        · rw [if_pos hc5] at h
          refine ev_aload_n od_197_53 rfl ?_
          refine ev_gf (v := .int (y4 42 36)) og_197_54 oO_42 rfl ?_
          refine ev_goto (t := 64) od_197_57 (by decide) ?_
          cases h
          exact ev_iret od_197_64 rfl hP
      · rw [if_pos hc6] at h
        refine ev_bipush (v := (-3 : Int32)) od_197_41 (by decide) ?_
        cases h
        exact ev_iret od_197_43 rfl hP
    · rw [if_pos hc7] at h
      refine ev_bipush (v := (-2 : Int32)) od_197_25 (by decide) ?_
      cases h
      exact ev_iret od_197_27 rfl hP
  · rw [if_neg hc8] at h
    refine ev_iconst (v := (-1 : Int32)) od_197_13 (by decide) ?_
    cases h
    exact ev_iret od_197_14 rfl hP
theorem R197 {L : Nat} {S : ov_S} {G : ov_L2} {x1 : Int32} {x2 : Int32}  {out : Int32 × ov_S} (h : f197 S x1 x2 = some out) : ov_R L 7 197 [.ref 42, .int x1, .int x2] S G (some (.int out.1)) out.2 G :=
  ov_Rof (t197  h ⟨rfl, rfl, rfl⟩)
-- 203 OEModel.findOrder
def f203_35_4 (S : ov_S) (x1 : Int32) (x2 : Int32) : Option ((Int32 × Int32 × ov_S) ⊕ (Int32 × ov_S)) :=
  some (.inl (x1, (x2 + (1 : Int32)), S))
theorem t203_35_4 {L : Nat} {S : ov_S} {G : ov_L2} {x1 : Int32} {x2 : Int32} {P : Option Value → ov_S → ov_L2 → Prop}  {out : (Int32 × Int32 × ov_S) ⊕ (Int32 × ov_S)} (h : f203_35_4 S x1 x2 = some out) (hk : ov_sm (σ := Int32 × Int32 × ov_S) (ε := (Int32 × ov_S)) (fun s => ov_J L 6 203 4 [some (.ref 42), some (.int s.1), some (.int s.2.1), none, none] [] s.2.2 G P) (fun e => ov_J L 6 203 41 [some (.ref 42), some (.int e.1), none, none, none] [] e.2 G P) out) : ov_J L 6 203 35 [some (.ref 42), some (.int x1), some (.int x2), none, none] [] S G P := by
  unfold f203_35_4 at h
  refine ev_iinc (v := (x2 + (1 : Int32))) (lv1 := [some (.ref 42), some (.int x1), some (.int (x2 + (1 : Int32))), none, none]) od_203_35 rfl rfl rfl ?_
  refine ev_goto (t := 4) od_203_38 (by decide) ?_
  cases h
  exact hk
def b203_4 (x1 : Int32) (x2 : Int32) (S : ov_S) : Option ((Int32 × Int32 × ov_S) ⊕ (Int32 × ov_S)) :=
  (if (S 42 7) ≤ x2 then some (.inr (x1, S)) else ov_ck (ov_ibb ((0 : Int32) + x2) 12) ((if (S 55 (((0 : Int32) + x2)).toNatClampNeg) = (-9 : Int32) then ov_ck (ov_ibb x1 6) (f203_35_4 (ov_up S 64 (x1).toNatClampNeg x2) (x1 + (1 : Int32)) x2) else f203_35_4 S x1 x2)))
theorem bt203_4 {L : Nat} {S : ov_S} {G : ov_L2} {x1 : Int32} {x2 : Int32} {P : Option Value → ov_S → ov_L2 → Prop}  {out : (Int32 × Int32 × ov_S) ⊕ (Int32 × ov_S)} (h : b203_4 x1 x2 S = some out) (hk : ov_sm (σ := Int32 × Int32 × ov_S) (ε := (Int32 × ov_S)) (fun s => ov_J L 6 203 4 [some (.ref 42), some (.int s.1), some (.int s.2.1), none, none] [] s.2.2 G P) (fun e => ov_J L 6 203 41 [some (.ref 42), some (.int e.1), none, none, none] [] e.2 G P) out) : ov_J L 6 203 4 [some (.ref 42), some (.int x1), some (.int x2), none, none] [] S G P := by
  unfold b203_4 at h
  refine ev_iload_n od_203_4 rfl ?_
  refine ev_aload_n od_203_5 rfl ?_
  refine ev_gf (v := .int (S 42 7)) og_203_6 oO_42 rfl ?_
  refine ev_icmp_ge (t := 41) od_203_9 (by decide) (fun hc4 => ?_) (fun hc4 => ?_)
  · rw [if_pos hc4] at h
    cases h
    refine ev_fg (lv0 := [some (.ref 42), some (.int x1), none, none, none]) (ov_le_s (ov_le_s (ov_le_n (ov_le_n (ov_le_n (ov_le_e)))))) ?_
    exact hk
  · rw [if_neg hc4] at h
    refine ev_aload_n od_203_12 rfl ?_
    refine ev_gf (v := .ref 55) og_203_13 oO_42 rfl ?_
    refine ev_iconst (v := (0 : Int32)) od_203_16 (by decide) ?_
    refine ev_iload_n od_203_17 rfl ?_
    refine ev_iadd od_203_18 ?_
    obtain ⟨bq1, h⟩ := ov_ck_ok h
    refine ev_iald od_203_19 oA_55 (ov_ibk bq1) ?_
    refine ev_bipush (v := (-9 : Int32)) od_203_20 (by decide) ?_
    refine ev_icmp_ne (t := 35) od_203_22 (by decide) (fun hc3 => ?_) (fun hc3 => ?_)
    · rw [if_neg hc3] at h
      exact t203_35_4  h hk
    · rw [if_pos hc3] at h
      refine ev_aload_n od_203_25 rfl ?_
      refine ev_gf (v := .ref 64) og_203_26 oO_42 rfl ?_
      refine ev_iload_n od_203_29 rfl ?_
      refine ev_iload_n od_203_30 rfl ?_
      obtain ⟨bq2, h⟩ := ov_ck_ok h
      refine ev_iast od_203_31 oA_64 (ov_ibk bq2) ?_
      refine ev_iinc (v := (x1 + (1 : Int32))) (lv1 := [some (.ref 42), some (.int (x1 + (1 : Int32))), some (.int x2), none, none]) od_203_32 rfl rfl rfl ?_
      exact t203_35_4  h hk
def b203_71 (x1 : Int32) (x3 : Int32) (x4 : Int32) (S : ov_S) : Option ((Int32 × Int32 × ov_S) ⊕ (Int32 × ov_S)) :=
  (if x1 ≤ x4 then some (.inr (x3, S)) else ov_ck (ov_ibb x4 6) ((f204 S (S 64 (x4).toNatClampNeg)).bind fun y8 => ov_ck (ov_ibb x4 6) (some (.inl (((((10 : Int32) * x3) + (y8 64 (x4).toNatClampNeg)) + (1 : Int32)), (x4 + (1 : Int32)), y8)))))
theorem bt203_71 {L : Nat} {S : ov_S} {G : ov_L2} {x1 : Int32} {x3 : Int32} {x4 : Int32} {P : Option Value → ov_S → ov_L2 → Prop}  {out : (Int32 × Int32 × ov_S) ⊕ (Int32 × ov_S)} (h : b203_71 x1 x3 x4 S = some out) (hk : ov_sm (σ := Int32 × Int32 × ov_S) (ε := (Int32 × ov_S)) (fun s => ov_J L 6 203 71 [some (.ref 42), some (.int x1), none, some (.int s.1), some (.int s.2.1)] [] s.2.2 G P) (fun e => ov_J L 6 203 109 [some (.ref 42), some (.int x1), none, some (.int e.1), none] [] e.2 G P) out) : ov_J L 6 203 71 [some (.ref 42), some (.int x1), none, some (.int x3), some (.int x4)] [] S G P := by
  unfold b203_71 at h
  refine ev_iload od_203_71 rfl ?_
  refine ev_iload_n od_203_73 rfl ?_
  refine ev_icmp_ge (t := 109) od_203_74 (by decide) (fun hc10 => ?_) (fun hc10 => ?_)
  · rw [if_pos hc10] at h
    cases h
    refine ev_fg (lv0 := [some (.ref 42), some (.int x1), none, some (.int x3), none]) (ov_le_s (ov_le_s (ov_le_n (ov_le_s (ov_le_n (ov_le_e)))))) ?_
    exact hk
  · rw [if_neg hc10] at h
    refine ev_aload_n od_203_77 rfl ?_
    refine ev_aload_n od_203_78 rfl ?_
    refine ev_gf (v := .ref 64) og_203_79 oO_42 rfl ?_
    refine ev_iload od_203_82 rfl ?_
    obtain ⟨bq7, h⟩ := ov_ck_ok h
    refine ev_iald od_203_84 oA_64 (ov_ibk bq7) ?_
    obtain ⟨y8, hy8, h⟩ := ov_bd h
    try dsimp only at h
    refine ev_cvv (y := 204) (n := 1) (a := 42) (c := 8) (as := [.int (S 64 (x4).toNatClampNeg)]) (rest := []) (dc := 6) oc_203_85 rfl rfl rfl oO_42 rfl rfl rfl rfl (by decide) (R204  hy8) ?_
    refine ev_bipush (v := (10 : Int32)) od_203_88 (by decide) ?_
    refine ev_iload_n od_203_90 rfl ?_
    refine ev_imul od_203_91 ?_
    refine ev_aload_n od_203_92 rfl ?_
    refine ev_gf (v := .ref 64) og_203_93 oO_42 rfl ?_
    refine ev_iload od_203_96 rfl ?_
    obtain ⟨bq9, h⟩ := ov_ck_ok h
    refine ev_iald od_203_98 oA_64 (ov_ibk bq9) ?_
    refine ev_iadd od_203_99 ?_
    refine ev_iconst (v := (1 : Int32)) od_203_100 (by decide) ?_
    refine ev_iadd od_203_101 ?_
    refine ev_istore_n (lv1 := [some (.ref 42), some (.int x1), none, some (.int ((((10 : Int32) * x3) + (y8 64 (x4).toNatClampNeg)) + (1 : Int32))), some (.int x4)]) od_203_102 rfl rfl ?_
    refine ev_iinc (v := (x4 + (1 : Int32))) (lv1 := [some (.ref 42), some (.int x1), none, some (.int ((((10 : Int32) * x3) + (y8 64 (x4).toNatClampNeg)) + (1 : Int32))), some (.int (x4 + (1 : Int32)))]) od_203_103 rfl rfl rfl ?_
    refine ev_goto (t := 71) od_203_106 (by decide) ?_
    cases h
    exact hk
def f203_162_49 (S : ov_S) (x1 : Int32) (s0 : Int32) : Option ((Int32 × ov_S) ⊕ (ov_S)) :=
  (f205 (ov_up S 42 37 s0) x1).bind fun y14 => some (.inl (y14.1, y14.2))
theorem t203_162_49 {L : Nat} {S : ov_S} {G : ov_L2} {x1 : Int32} {s0 : Int32} {P : Option Value → ov_S → ov_L2 → Prop}  {out : (Int32 × ov_S) ⊕ (ov_S)} (h : f203_162_49 S x1 s0 = some out) (hk : ov_sm (σ := Int32 × ov_S) (ε := (ov_S)) (fun s => ov_J L 6 203 49 [some (.ref 42), some (.int x1), some (.int s.1), none, none] [] s.2 G P) (fun e => ov_J L 6 203 174 [none, none, none, none, none] [] e G P) out) : ov_J L 6 203 162 [some (.ref 42), some (.int x1), none, none, none] [.int s0, .ref 42] S G P := by
  unfold f203_162_49 at h
  refine ev_pf op_203_162 oO_42 rfl rfl ?_
  refine ev_aload_n od_203_165 rfl ?_
  refine ev_iload_n od_203_166 rfl ?_
  obtain ⟨y14, hy14, h⟩ := ov_bd h
  try dsimp only at h
  refine ev_cvi (y := 205) (n := 1) (a := 42) (c := 8) (as := [.int x1]) (rest := []) (dc := 1) oc_203_167 rfl rfl rfl oO_42 rfl rfl rfl rfl (by decide) (R205  hy14) ?_
  refine ev_istore_n (lv1 := [some (.ref 42), some (.int x1), some (.int y14.1), none, none]) od_203_170 rfl rfl ?_
  refine ev_goto (t := 49) od_203_171 (by decide) ?_
  cases h
  exact hk
def f203_140_49 (S : ov_S) (x1 : Int32) (x4 : Int32) (s0 : Int32) : Option ((Int32 × ov_S) ⊕ (ov_S)) :=
  (if x4 ≤ ((ov_up S 42 36 s0) 42 37) then f203_162_49 (ov_up S 42 36 s0) x1 ((ov_up S 42 36 s0) 42 37) else f203_162_49 (ov_up S 42 36 s0) x1 x4)
theorem t203_140_49 {L : Nat} {S : ov_S} {G : ov_L2} {x1 : Int32} {x4 : Int32} {s0 : Int32} {P : Option Value → ov_S → ov_L2 → Prop}  {out : (Int32 × ov_S) ⊕ (ov_S)} (h : f203_140_49 S x1 x4 s0 = some out) (hk : ov_sm (σ := Int32 × ov_S) (ε := (ov_S)) (fun s => ov_J L 6 203 49 [some (.ref 42), some (.int x1), some (.int s.1), none, none] [] s.2 G P) (fun e => ov_J L 6 203 174 [none, none, none, none, none] [] e G P) out) : ov_J L 6 203 140 [some (.ref 42), some (.int x1), none, none, some (.int x4)] [.int s0, .ref 42] S G P := by
  unfold f203_140_49 at h
  refine ev_pf op_203_140 oO_42 rfl rfl ?_
  refine ev_aload_n od_203_143 rfl ?_
  refine ev_iload od_203_144 rfl ?_
  refine ev_aload_n od_203_146 rfl ?_
  refine ev_gf (v := .int ((ov_up S 42 36 s0) 42 37)) og_203_147 oO_42 rfl ?_
  refine ev_icmp_le (t := 158) od_203_150 (by decide) (fun hc15 => ?_) (fun hc15 => ?_)
  · rw [if_pos hc15] at h
    refine ev_aload_n od_203_158 rfl ?_
    refine ev_gf (v := .int ((ov_up S 42 36 s0) 42 37)) og_203_159 oO_42 rfl ?_
    refine ev_fg (lv0 := [some (.ref 42), some (.int x1), none, none, none]) (ov_le_s (ov_le_s (ov_le_n (ov_le_n (ov_le_n (ov_le_e)))))) ?_
    exact t203_162_49  h hk
  · rw [if_neg hc15] at h
    refine ev_iload od_203_153 rfl ?_
    refine ev_goto (t := 162) od_203_155 (by decide) ?_
    refine ev_fg (lv0 := [some (.ref 42), some (.int x1), none, none, none]) (ov_le_s (ov_le_s (ov_le_n (ov_le_n (ov_le_n (ov_le_e)))))) ?_
    exact t203_162_49  h hk
def b203_49 (x1 : Int32) (x2 : Int32) (S : ov_S) : Option ((Int32 × ov_S) ⊕ (ov_S)) :=
  (if x2 = 0 then some (.inr S) else (f158 55 56 S (12 : Int32)).bind fun y6 => ((ov_lp (fun s => b203_71 x1 s.1 s.2.1 s.2.2) 2000 ((0 : Int32), (0 : Int32), y6)).bind fun e11 => (f163 56 e11.2).bind fun y12 => (f191 y12).bind fun y13 => (if y13 ≤ (e11.2 42 37) then f203_140_49 e11.2 x1 y13 (e11.2 42 36) else f203_140_49 e11.2 x1 y13 e11.1)))
theorem bt203_49 {L : Nat} {S : ov_S} {G : ov_L2} {x1 : Int32} {x2 : Int32} {P : Option Value → ov_S → ov_L2 → Prop}  {out : (Int32 × ov_S) ⊕ (ov_S)} (h : b203_49 x1 x2 S = some out) (hk : ov_sm (σ := Int32 × ov_S) (ε := (ov_S)) (fun s => ov_J L 6 203 49 [some (.ref 42), some (.int x1), some (.int s.1), none, none] [] s.2 G P) (fun e => ov_J L 6 203 174 [none, none, none, none, none] [] e G P) out) : ov_J L 6 203 49 [some (.ref 42), some (.int x1), some (.int x2), none, none] [] S G P := by
  unfold b203_49 at h
  refine ev_iload_n od_203_49 rfl ?_
  refine ev_if_eq (t := 174) od_203_50 (by decide) (fun hc17 => ?_) (fun hc17 => ?_)
  · rw [if_pos hc17] at h
    cases h
    refine ev_fg (lv0 := [none, none, none, none, none]) (ov_le_n (ov_le_n (ov_le_n (ov_le_n (ov_le_n (ov_le_e)))))) ?_
    exact hk
  · rw [if_neg hc17] at h
    refine ev_aload_n od_203_53 rfl ?_
    refine ev_gf (v := .ref 55) og_203_54 oO_42 rfl ?_
    refine ev_aload_n od_203_57 rfl ?_
    refine ev_gf (v := .ref 56) og_203_58 oO_42 rfl ?_
    refine ev_bipush (v := (12 : Int32)) od_203_61 (by decide) ?_
    obtain ⟨y6, hy6, h⟩ := ov_bd h
    try dsimp only at h
    refine ev_csv (y := 158) (n := 3) (as := [.ref 55, .ref 56, .int (12 : Int32)]) (rest := []) (dc := 1) oc_203_63 rfl rfl rfl rfl rfl (by decide) (R158 oA_55 oA_56 hy6) ?_
    refine ev_iconst (v := (0 : Int32)) od_203_66 (by decide) ?_
    refine ev_istore_n (lv1 := [some (.ref 42), some (.int x1), some (.int x2), some (.int (0 : Int32)), none]) od_203_67 rfl rfl ?_
    refine ev_iconst (v := (0 : Int32)) od_203_68 (by decide) ?_
    refine ev_istore (lv1 := [some (.ref 42), some (.int x1), some (.int x2), some (.int (0 : Int32)), some (.int (0 : Int32))]) od_203_69 rfl rfl ?_
    obtain ⟨e11, he11, h⟩ := ov_bd h
    try dsimp only at h
    refine ev_fg (lv0 := [some (.ref 42), some (.int x1), none, some (.int (0 : Int32)), some (.int (0 : Int32))]) (ov_le_s (ov_le_s (ov_le_n (ov_le_s (ov_le_s (ov_le_e)))))) ?_
    refine ov_lp_S (body := (fun s => b203_71 x1 s.1 s.2.1 s.2.2)) (head := (fun s => ov_J L 6 203 71 [some (.ref 42), some (.int x1), none, some (.int s.1), some (.int s.2.1)] [] s.2.2 G P)) (exit := (fun e => ov_J L 6 203 109 [some (.ref 42), some (.int x1), none, some (.int e.1), none] [] e.2 G P)) (fun s r hb hk => bt203_71  hb hk) 2000 ((0 : Int32), (0 : Int32), y6) e11 he11 ?_
    show ov_J L 6 203 109 [some (.ref 42), some (.int x1), none, some (.int e11.1), none] [] e11.2 G P
    refine ev_aload_n od_203_109 rfl ?_
    refine ev_aload_n od_203_110 rfl ?_
    refine ev_gf (v := .ref 56) og_203_111 oO_42 rfl ?_
    obtain ⟨y12, hy12, h⟩ := ov_bd h
    try dsimp only at h
    refine ev_cvi (y := 163) (n := 1) (a := 42) (c := 8) (as := [.ref 56]) (rest := []) (dc := 5) oc_203_114 rfl rfl rfl oO_42 rfl rfl rfl rfl (by decide) (R163 oA_56 hy12) ?_
    obtain ⟨y13, hy13, h⟩ := ov_bd h
    try dsimp only at h
    refine ev_csi (y := 191) (n := 1) (as := [.int y12]) (rest := []) (dc := 1) oc_203_117 rfl rfl rfl rfl rfl (by decide) (R191  hy13) ?_
    refine ev_istore (lv1 := [some (.ref 42), some (.int x1), none, some (.int e11.1), some (.int y13)]) od_203_120 rfl rfl ?_
    refine ev_aload_n od_203_122 rfl ?_
    refine ev_iload od_203_123 rfl ?_
    refine ev_aload_n od_203_125 rfl ?_
    refine ev_gf (v := .int (e11.2 42 37)) og_203_126 oO_42 rfl ?_
    refine ev_icmp_le (t := 136) od_203_129 (by decide) (fun hc16 => ?_) (fun hc16 => ?_)
    · rw [if_pos hc16] at h
      refine ev_aload_n od_203_136 rfl ?_
      refine ev_gf (v := .int (e11.2 42 36)) og_203_137 oO_42 rfl ?_
      refine ev_fg (lv0 := [some (.ref 42), some (.int x1), none, none, some (.int y13)]) (ov_le_s (ov_le_s (ov_le_n (ov_le_n (ov_le_s (ov_le_e)))))) ?_
      exact t203_140_49  h hk
    · rw [if_neg hc16] at h
      refine ev_iload_n od_203_132 rfl ?_
      refine ev_goto (t := 140) od_203_133 (by decide) ?_
      refine ev_fg (lv0 := [some (.ref 42), some (.int x1), none, none, some (.int y13)]) (ov_le_s (ov_le_s (ov_le_n (ov_le_n (ov_le_s (ov_le_e)))))) ?_
      exact t203_140_49  h hk
def f203 (S : ov_S) : Option (ov_S) :=
  ((ov_lp (fun s => b203_4  s.1 s.2.1 s.2.2) 2000 ((0 : Int32), (0 : Int32), S)).bind fun e5 => ((ov_lp (fun s => b203_49 e5.1 s.1 s.2) 2000 ((1 : Int32), (ov_up e5.2 42 37 (-9 : Int32)))).bind fun e18 => some e18))
theorem t203 {L : Nat} {S : ov_S} {G : ov_L2}  {P : Option Value → ov_S → ov_L2 → Prop}  {out : ov_S} (h : f203 S = some out) (hP : P none out G) : ov_J L 6 203 0 [some (.ref 42), none, none, none, none] [] S G P := by
  unfold f203 at h
  refine ev_iconst (v := (0 : Int32)) od_203_0 (by decide) ?_
  refine ev_istore_n (lv1 := [some (.ref 42), some (.int (0 : Int32)), none, none, none]) od_203_1 rfl rfl ?_
  refine ev_iconst (v := (0 : Int32)) od_203_2 (by decide) ?_
  refine ev_istore_n (lv1 := [some (.ref 42), some (.int (0 : Int32)), some (.int (0 : Int32)), none, none]) od_203_3 rfl rfl ?_
  obtain ⟨e5, he5, h⟩ := ov_bd h
  try dsimp only at h
  refine ov_lp_S (body := (fun s => b203_4  s.1 s.2.1 s.2.2)) (head := (fun s => ov_J L 6 203 4 [some (.ref 42), some (.int s.1), some (.int s.2.1), none, none] [] s.2.2 G P)) (exit := (fun e => ov_J L 6 203 41 [some (.ref 42), some (.int e.1), none, none, none] [] e.2 G P)) (fun s r hb hk => bt203_4  hb hk) 2000 ((0 : Int32), (0 : Int32), S) e5 he5 ?_
  show ov_J L 6 203 41 [some (.ref 42), some (.int e5.1), none, none, none] [] e5.2 G P
  refine ev_aload_n od_203_41 rfl ?_
  refine ev_bipush (v := (-9 : Int32)) od_203_42 (by decide) ?_
  refine ev_pf op_203_44 oO_42 rfl rfl ?_
  refine ev_iconst (v := (1 : Int32)) od_203_47 (by decide) ?_
  refine ev_istore_n (lv1 := [some (.ref 42), some (.int e5.1), some (.int (1 : Int32)), none, none]) od_203_48 rfl rfl ?_
  obtain ⟨e18, he18, h⟩ := ov_bd h
  try dsimp only at h
  refine ov_lp_S (body := (fun s => b203_49 e5.1 s.1 s.2)) (head := (fun s => ov_J L 6 203 49 [some (.ref 42), some (.int e5.1), some (.int s.1), none, none] [] s.2 G P)) (exit := (fun e => ov_J L 6 203 174 [none, none, none, none, none] [] e G P)) (fun s r hb hk => bt203_49  hb hk) 2000 ((1 : Int32), (ov_up e5.2 42 37 (-9 : Int32))) e18 he18 ?_
  show ov_J L 6 203 174 [none, none, none, none, none] [] e18 G P
  cases h
  exact ev_vret od_203_174 rfl hP
theorem R203 {L : Nat} {S : ov_S} {G : ov_L2}   {out : ov_S} (h : f203 S = some out) : ov_R L 7 203 [.ref 42] S G none out G :=
  ov_Rof (t203  h ⟨rfl, rfl, rfl⟩)
