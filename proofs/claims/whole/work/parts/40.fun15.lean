-- 105 OE$Orders.goOn
def f105_10 (rc : Int32 → Int32 → Int32 → ov_S → Option ov_S) (S : ov_S) (x2 : Int32) : Option (ov_S) :=
  (f106 S x2).bind fun y1 => some y1
theorem t105_10 {L : Nat} {S : ov_S} {G : ov_L2} {x2 : Int32} {P : Option Value → ov_S → ov_L2 → Prop} {rc : Int32 → Int32 → Int32 → ov_S → Option ov_S} {d : Nat} (hd : 5 ≤ d) (hrc : ∀ (L : Nat) (S : ov_S) (G : ov_L2) (x1 x2 x3 : Int32) (out : ov_S), rc x1 x2 x3 S = some out → ov_R L d 105 [.ref 31, .int x1, .int x2, .int x3] S G none out G)  {out : ov_S} (h : f105_10 rc S x2 = some out) (hP : P none out G) : ov_J L d 105 10 [some (.ref 31), none, some (.int x2), none, none, none] [] S G P := by
  unfold f105_10 at h
  refine ev_aload_n od_105_10 rfl ?_
  refine ev_iload_n od_105_11 rfl ?_
  obtain ⟨y1, hy1, h⟩ := ov_bd h
  try dsimp only at h
  refine ev_cvv (y := 106) (n := 1) (a := 31) (c := 6) (as := [.int x2]) (rest := []) (dc := 5) oc_105_12 rfl rfl rfl oO_31 rfl rfl rfl rfl (Nat.le_trans (by decide) hd) (R106  hy1) ?_
  cases h
  exact ev_vret od_105_15 rfl hP
def f105_85_25 (rc : Int32 → Int32 → Int32 → ov_S → Option ov_S) (S : ov_S) (x1 : Int32) (x2 : Int32) (x3 : Int32) (x5 : Int32) : Option ((Int32 × ov_S) ⊕ (ov_S)) :=
  some (.inl ((x5 + (1 : Int32)), S))
theorem t105_85_25 {L : Nat} {S : ov_S} {G : ov_L2} {x1 : Int32} {x2 : Int32} {x3 : Int32} {x5 : Int32} {P : Option Value → ov_S → ov_L2 → Prop} {rc : Int32 → Int32 → Int32 → ov_S → Option ov_S} {d : Nat} (hd : 5 ≤ d) (hrc : ∀ (L : Nat) (S : ov_S) (G : ov_L2) (x1 x2 x3 : Int32) (out : ov_S), rc x1 x2 x3 S = some out → ov_R L d 105 [.ref 31, .int x1, .int x2, .int x3] S G none out G)  {out : (Int32 × ov_S) ⊕ (ov_S)} (h : f105_85_25 rc S x1 x2 x3 x5 = some out) (hk : ov_sm (σ := Int32 × ov_S) (ε := (ov_S)) (fun s => ov_J L d 105 25 [some (.ref 31), some (.int x1), some (.int x2), some (.int x3), some (.ref 21), some (.int s.1)] [] s.2 G P) (fun e => ov_J L d 105 91 [none, none, none, none, none, none] [] e G P) out) : ov_J L d 105 85 [some (.ref 31), some (.int x1), some (.int x2), some (.int x3), some (.ref 21), some (.int x5)] [] S G P := by
  unfold f105_85_25 at h
  refine ev_iinc (v := (x5 + (1 : Int32))) (lv1 := [some (.ref 31), some (.int x1), some (.int x2), some (.int x3), some (.ref 21), some (.int (x5 + (1 : Int32)))]) od_105_85 rfl rfl rfl ?_
  refine ev_goto (t := 25) od_105_88 (by decide) ?_
  cases h
  exact hk
def b105_25 (rc : Int32 → Int32 → Int32 → ov_S → Option ov_S) (x1 : Int32) (x2 : Int32) (x3 : Int32) (x5 : Int32) (S : ov_S) : Option ((Int32 × ov_S) ⊕ (ov_S)) :=
  (if (6 : Int32) ≤ x5 then some (.inr S) else (f23 x1 x5).bind fun y2 => (if y2 = 0 then f105_85_25 rc S x1 x2 x3 x5 else (f107 21 S).bind fun y3 => (f101 21 S x5 y3).bind fun y4 => (f91 x1 x5).bind fun y5 => (rc y5 ((((10 : Int32) * x2) + x5) + (1 : Int32)) (x3 + (1 : Int32)) y4.2).bind fun y6 => (f90 21 y6 x5 (-9 : Int32)).bind fun y7 => f105_85_25 rc y7 x1 x2 x3 x5))
theorem bt105_25 {L : Nat} {S : ov_S} {G : ov_L2} {x1 : Int32} {x2 : Int32} {x3 : Int32} {x5 : Int32} {P : Option Value → ov_S → ov_L2 → Prop} {rc : Int32 → Int32 → Int32 → ov_S → Option ov_S} {d : Nat} (hd : 5 ≤ d) (hrc : ∀ (L : Nat) (S : ov_S) (G : ov_L2) (x1 x2 x3 : Int32) (out : ov_S), rc x1 x2 x3 S = some out → ov_R L d 105 [.ref 31, .int x1, .int x2, .int x3] S G none out G)  {out : (Int32 × ov_S) ⊕ (ov_S)} (h : b105_25 rc x1 x2 x3 x5 S = some out) (hk : ov_sm (σ := Int32 × ov_S) (ε := (ov_S)) (fun s => ov_J L d 105 25 [some (.ref 31), some (.int x1), some (.int x2), some (.int x3), some (.ref 21), some (.int s.1)] [] s.2 G P) (fun e => ov_J L d 105 91 [none, none, none, none, none, none] [] e G P) out) : ov_J L d 105 25 [some (.ref 31), some (.int x1), some (.int x2), some (.int x3), some (.ref 21), some (.int x5)] [] S G P := by
  unfold b105_25 at h
  refine ev_iload od_105_25 rfl ?_
  refine ev_bipush (v := (6 : Int32)) od_105_27 (by decide) ?_
  refine ev_icmp_ge (t := 91) od_105_29 (by decide) (fun hc9 => ?_) (fun hc9 => ?_)
  · rw [if_pos hc9] at h
    cases h
    refine ev_fg (lv0 := [none, none, none, none, none, none]) (ov_le_n (ov_le_n (ov_le_n (ov_le_n (ov_le_n (ov_le_n (ov_le_e))))))) ?_
    exact hk
  · rw [if_neg hc9] at h
    refine ev_iload_n od_105_32 rfl ?_
    refine ev_iload od_105_33 rfl ?_
    obtain ⟨y2, hy2, h⟩ := ov_bd h
    try dsimp only at h
    refine ev_csi (y := 23) (n := 2) (as := [.int x1, .int x5]) (rest := []) (dc := 1) oc_105_35 rfl rfl rfl rfl rfl (Nat.le_trans (by decide) hd) (R23  hy2) ?_
    refine ev_if_eq (t := 85) od_105_38 (by decide) (fun hc8 => ?_) (fun hc8 => ?_)
    · rw [if_pos hc8] at h
      exact t105_85_25 hd hrc h hk
    · rw [if_neg hc8] at h
      refine ev_aload od_105_41 rfl ?_
      refine ev_iload od_105_43 rfl ?_
      refine ev_aload od_105_45 rfl ?_
      obtain ⟨y3, hy3, h⟩ := ov_bd h
      try dsimp only at h
      refine ev_cvi (y := 107) (n := 0) (a := 21) (c := 3) (as := []) (rest := [.int x5, .ref 21]) (dc := 4) oc_105_47 rfl rfl rfl oO_21 rfl rfl rfl rfl (Nat.le_trans (by decide) hd) (R107 oS_21 hy3) ?_
      obtain ⟨y4, hy4, h⟩ := ov_bd h
      try dsimp only at h
      refine ev_cvi (y := 101) (n := 2) (a := 21) (c := 3) (as := [.int x5, .int y3]) (rest := []) (dc := 5) oc_105_50 rfl rfl rfl oO_21 rfl rfl rfl rfl (Nat.le_trans (by decide) hd) (R101 oS_21 hy4) ?_
      refine ev_pop od_105_53 rfl ?_
      refine ev_aload_n od_105_54 rfl ?_
      refine ev_iload_n od_105_55 rfl ?_
      refine ev_iload od_105_56 rfl ?_
      obtain ⟨y5, hy5, h⟩ := ov_bd h
      try dsimp only at h
      refine ev_csi (y := 91) (n := 2) (as := [.int x1, .int x5]) (rest := [.ref 31]) (dc := 1) oc_105_58 rfl rfl rfl rfl rfl (Nat.le_trans (by decide) hd) (R91  hy5) ?_
      refine ev_bipush (v := (10 : Int32)) od_105_61 (by decide) ?_
      refine ev_iload_n od_105_63 rfl ?_
      refine ev_imul od_105_64 ?_
      refine ev_iload od_105_65 rfl ?_
      refine ev_iadd od_105_67 ?_
      refine ev_iconst (v := (1 : Int32)) od_105_68 (by decide) ?_
      refine ev_iadd od_105_69 ?_
      refine ev_iload_n od_105_70 rfl ?_
      refine ev_iconst (v := (1 : Int32)) od_105_71 (by decide) ?_
      refine ev_iadd od_105_72 ?_
      obtain ⟨y6, hy6, h⟩ := ov_bd h
      try dsimp only at h
      refine ev_csv (y := 105) (n := 4) (as := [.ref 31, .int y5, .int ((((10 : Int32) * x2) + x5) + (1 : Int32)), .int (x3 + (1 : Int32))]) (rest := []) (dc := d) oc_105_73 rfl rfl rfl rfl rfl (Nat.le_refl d) (hrc _ _ _ _ _ _ _  hy6) ?_
      refine ev_aload od_105_76 rfl ?_
      refine ev_iload od_105_78 rfl ?_
      refine ev_bipush (v := (-9 : Int32)) od_105_80 (by decide) ?_
      obtain ⟨y7, hy7, h⟩ := ov_bd h
      try dsimp only at h
      refine ev_cvv (y := 90) (n := 2) (a := 21) (c := 3) (as := [.int x5, .int (-9 : Int32)]) (rest := []) (dc := 2) oc_105_82 rfl rfl rfl oO_21 rfl rfl rfl rfl (Nat.le_trans (by decide) hd) (R90 oS_21 hy7) ?_
      exact t105_85_25 hd hrc h hk
def f105 (rc : Int32 → Int32 → Int32 → ov_S → Option ov_S) (S : ov_S) (x1 : Int32) (x2 : Int32) (x3 : Int32) : Option (ov_S) :=
  (if x1 = 0 then f105_10 rc S x2 else (if x3 < (6 : Int32) then ((ov_lp (fun s => b105_25 rc x1 x2 x3 s.1 s.2) 2000 ((0 : Int32), S)).bind fun e10 => some e10) else f105_10 rc S x2))
theorem t105 {L : Nat} {S : ov_S} {G : ov_L2} {x1 : Int32} {x2 : Int32} {x3 : Int32} {P : Option Value → ov_S → ov_L2 → Prop} {rc : Int32 → Int32 → Int32 → ov_S → Option ov_S} {d : Nat} (hd : 5 ≤ d) (hrc : ∀ (L : Nat) (S : ov_S) (G : ov_L2) (x1 x2 x3 : Int32) (out : ov_S), rc x1 x2 x3 S = some out → ov_R L d 105 [.ref 31, .int x1, .int x2, .int x3] S G none out G)  {out : ov_S} (h : f105 rc S x1 x2 x3 = some out) (hP : P none out G) : ov_J L d 105 0 [some (.ref 31), some (.int x1), some (.int x2), some (.int x3), none, none] [] S G P := by
  unfold f105 at h
  refine ev_iload_n od_105_0 rfl ?_
  refine ev_if_eq (t := 10) od_105_1 (by decide) (fun hc12 => ?_) (fun hc12 => ?_)
  · rw [if_pos hc12] at h
    refine ev_fg (lv0 := [some (.ref 31), none, some (.int x2), none, none, none]) (ov_le_s (ov_le_n (ov_le_s (ov_le_n (ov_le_n (ov_le_n (ov_le_e))))))) ?_
    exact t105_10 hd hrc h hP
  · rw [if_neg hc12] at h
    refine ev_iload_n od_105_4 rfl ?_
    refine ev_bipush (v := (6 : Int32)) od_105_5 (by decide) ?_
    refine ev_icmp_lt (t := 16) od_105_7 (by decide) (fun hc11 => ?_) (fun hc11 => ?_)
    · rw [if_pos hc11] at h
      refine ev_aload_n od_105_16 rfl ?_
      refine ev_gf (v := .ref 21) og_105_17 oO_31 rfl ?_
      refine ev_astore (lv1 := [some (.ref 31), some (.int x1), some (.int x2), some (.int x3), some (.ref 21), none]) od_105_20 rfl rfl ?_
      refine ev_iconst (v := (0 : Int32)) od_105_22 (by decide) ?_
      refine ev_istore (lv1 := [some (.ref 31), some (.int x1), some (.int x2), some (.int x3), some (.ref 21), some (.int (0 : Int32))]) od_105_23 rfl rfl ?_
      obtain ⟨e10, he10, h⟩ := ov_bd h
      try dsimp only at h
      refine ov_lp_S (body := (fun s => b105_25 rc x1 x2 x3 s.1 s.2)) (head := (fun s => ov_J L d 105 25 [some (.ref 31), some (.int x1), some (.int x2), some (.int x3), some (.ref 21), some (.int s.1)] [] s.2 G P)) (exit := (fun e => ov_J L d 105 91 [none, none, none, none, none, none] [] e G P)) (fun s r hb hk => bt105_25 hd hrc hb hk) 2000 ((0 : Int32), S) e10 he10 ?_
      show ov_J L d 105 91 [none, none, none, none, none, none] [] e10 G P
      cases h
      exact ev_vret od_105_91 rfl hP
    · rw [if_neg hc11] at h
      refine ev_fg (lv0 := [some (.ref 31), none, some (.int x2), none, none, none]) (ov_le_s (ov_le_n (ov_le_s (ov_le_n (ov_le_n (ov_le_n (ov_le_e))))))) ?_
      exact t105_10 hd hrc h hP
def g105 : Nat → Int32 → Int32 → Int32 → ov_S → Option ov_S
  | 0, _, _, _, _ => none
  | n + 1, x1, x2, x3, S => f105 (g105 n) S x1 x2 x3
theorem R105 : ∀ (n : Nat) {L : Nat} {S : ov_S} {G : ov_L2} {x1 x2 x3 : Int32} {out : ov_S}, g105 n x1 x2 x3 S = some out → ov_R L (5 + n) 105 [.ref 31, .int x1, .int x2, .int x3] S G none out G
  | 0, _, _, _, _, _, _, _, h => by cases h
  | n + 1, _, _, _, _, _, _, _, h => ov_Rof (t105 (d := 5 + n) (Nat.le_add_right _ _) (fun L S G x1 x2 x3 out h => R105 n h) h ⟨rfl, rfl, rfl⟩)
-- 104 OE$Orders.look
def f104 (S : ov_S) : Option (ov_S) :=
  (f33 21 (ov_up (ov_up S 31 2 (-1 : Int32)) 31 3 (0 : Int32))).bind fun y1 => (g105 8 ((y1 ^^^ (-1 : Int32)) &&& (((1 : Int32) <<< (((ov_up (ov_up S 31 2 (-1 : Int32)) 31 3 (0 : Int32)) 4 2) &&& 31)) - (1 : Int32))) (0 : Int32) (0 : Int32) (ov_up (ov_up S 31 2 (-1 : Int32)) 31 3 (0 : Int32))).bind fun y2 => some y2
theorem t104 {L : Nat} {S : ov_S} {G : ov_L2}  {P : Option Value → ov_S → ov_L2 → Prop}  {out : ov_S} (h : f104 S = some out) (hP : P none out G) : ov_J L 13 104 0 [some (.ref 31), none] [] S G P := by
  unfold f104 at h
  refine ev_aload_n od_104_0 rfl ?_
  refine ev_iconst (v := (-1 : Int32)) od_104_1 (by decide) ?_
  refine ev_pf op_104_2 oO_31 rfl rfl ?_
  refine ev_aload_n od_104_5 rfl ?_
  refine ev_iconst (v := (0 : Int32)) od_104_6 (by decide) ?_
  refine ev_pf op_104_7 oO_31 rfl rfl ?_
  refine ev_aload_n od_104_10 rfl ?_
  refine ev_gf (v := .ref 21) og_104_11 oO_31 rfl ?_
  obtain ⟨y1, hy1, h⟩ := ov_bd h
  try dsimp only at h
  refine ev_cvi (y := 33) (n := 0) (a := 21) (c := 3) (as := []) (rest := []) (dc := 4) oc_104_14 rfl rfl rfl oO_21 rfl rfl rfl rfl (by decide) (R33 oS_21 hy1) ?_
  refine ev_iconst (v := (-1 : Int32)) od_104_17 (by decide) ?_
  refine ev_ixor od_104_18 ?_
  refine ev_iconst (v := (1 : Int32)) od_104_19 (by decide) ?_
  refine ev_aload_n od_104_20 rfl ?_
  refine ev_gf (v := .ref 4) og_104_21 oO_31 rfl ?_
  refine ev_gf (v := .int ((ov_up (ov_up S 31 2 (-1 : Int32)) 31 3 (0 : Int32)) 4 2)) og_104_24 oO_4 rfl ?_
  refine ev_ishl od_104_27 ?_
  refine ev_iconst (v := (1 : Int32)) od_104_28 (by decide) ?_
  refine ev_isub od_104_29 ?_
  refine ev_iand od_104_30 ?_
  refine ev_istore_n (lv1 := [some (.ref 31), some (.int ((y1 ^^^ (-1 : Int32)) &&& (((1 : Int32) <<< (((ov_up (ov_up S 31 2 (-1 : Int32)) 31 3 (0 : Int32)) 4 2) &&& 31)) - (1 : Int32))))]) od_104_31 rfl rfl ?_
  refine ev_aload_n od_104_32 rfl ?_
  refine ev_iload_n od_104_33 rfl ?_
  refine ev_iconst (v := (0 : Int32)) od_104_34 (by decide) ?_
  refine ev_iconst (v := (0 : Int32)) od_104_35 (by decide) ?_
  obtain ⟨y2, hy2, h⟩ := ov_bd h
  try dsimp only at h
  refine ev_csv (y := 105) (n := 4) (as := [.ref 31, .int ((y1 ^^^ (-1 : Int32)) &&& (((1 : Int32) <<< (((ov_up (ov_up S 31 2 (-1 : Int32)) 31 3 (0 : Int32)) 4 2) &&& 31)) - (1 : Int32))), .int (0 : Int32), .int (0 : Int32)]) (rest := []) (dc := 13) oc_104_36 rfl rfl rfl rfl rfl (by decide) (R105 8  hy2) ?_
  cases h
  exact ev_vret od_104_39 rfl hP
theorem R104 {L : Nat} {S : ov_S} {G : ov_L2}   {out : ov_S} (h : f104 S = some out) : ov_R L 14 104 [.ref 31] S G none out G :=
  ov_Rof (t104  h ⟨rfl, rfl, rfl⟩)
-- 103 OE.order
def f103 (S : ov_S) (x1 : Int32) : Option (Int32 × ov_S) :=
  (f97 21 18 S).bind fun y1 => (f104 y1).bind fun y2 => (if x1 = 0 then (f109 y2).bind fun y3 => some (y3, y2) else (f108 y2).bind fun y4 => some (y4, y2))
theorem t103 {L : Nat} {S : ov_S} {G : ov_L2} {x1 : Int32} {P : Option Value → ov_S → ov_L2 → Prop}  {out : Int32 × ov_S} (h : f103 S x1 = some out) (hP : P (some (.int out.1)) out.2 G) : ov_J L 14 103 0 [some (.ref 1), some (.int x1)] [] S G P := by
  unfold f103 at h
  refine ev_aload_n od_103_0 rfl ?_
  refine ev_gf (v := .ref 21) og_103_1 oO_1 rfl ?_
  refine ev_aload_n od_103_4 rfl ?_
  refine ev_gf (v := .ref 18) og_103_5 oO_1 rfl ?_
  obtain ⟨y1, hy1, h⟩ := ov_bd h
  try dsimp only at h
  refine ev_cvv (y := 97) (n := 1) (a := 21) (c := 3) (as := [.ref 18]) (rest := []) (dc := 1) oc_103_8 rfl rfl rfl oO_21 rfl rfl rfl rfl (by decide) (R97 oS_21 oS_18 hy1) ?_
  refine ev_aload_n od_103_11 rfl ?_
  refine ev_gf (v := .ref 31) og_103_12 oO_1 rfl ?_
  obtain ⟨y2, hy2, h⟩ := ov_bd h
  try dsimp only at h
  refine ev_cvv (y := 104) (n := 0) (a := 31) (c := 6) (as := []) (rest := []) (dc := 14) oc_103_15 rfl rfl rfl oO_31 rfl rfl rfl rfl (by decide) (R104  hy2) ?_
  refine ev_iload_n od_103_18 rfl ?_
  refine ev_if_eq (t := 32) od_103_19 (by decide) (fun hc5 => ?_) (fun hc5 => ?_)
  · rw [if_pos hc5] at h
    refine ev_aload_n od_103_32 rfl ?_
    refine ev_gf (v := .ref 31) og_103_33 oO_1 rfl ?_
    obtain ⟨y3, hy3, h⟩ := ov_bd h
    try dsimp only at h
    refine ev_cvi (y := 109) (n := 0) (a := 31) (c := 6) (as := []) (rest := []) (dc := 1) oc_103_36 rfl rfl rfl oO_31 rfl rfl rfl rfl (by decide) (R109  hy3) ?_
    cases h
    exact ev_iret od_103_39 rfl hP
  · rw [if_neg hc5] at h
    refine ev_aload_n od_103_22 rfl ?_
    refine ev_gf (v := .ref 31) og_103_23 oO_1 rfl ?_
    obtain ⟨y4, hy4, h⟩ := ov_bd h
    try dsimp only at h
    refine ev_cvi (y := 108) (n := 0) (a := 31) (c := 6) (as := []) (rest := []) (dc := 1) oc_103_26 rfl rfl rfl oO_31 rfl rfl rfl rfl (by decide) (R108  hy4) ?_
    refine ev_goto (t := 39) od_103_29 (by decide) ?_
    cases h
    exact ev_iret od_103_39 rfl hP
theorem R103 {L : Nat} {S : ov_S} {G : ov_L2} {x1 : Int32}  {out : Int32 × ov_S} (h : f103 S x1 = some out) : ov_R L 15 103 [.ref 1, .int x1] S G (some (.int out.1)) out.2 G :=
  ov_Rof (t103  h ⟨rfl, rfl, rfl⟩)
-- 0 OELaw.law
def f0_1111_18 (L : Nat) (S : ov_S) (G : ov_L2) (x3 : Int32) : Option ((Int32 × ov_S × ov_L2) ⊕ ((ov_S × ov_L2) ⊕ (Int32 × ov_S × ov_L2))) :=
  some (.inl ((x3 + (4 : Int32)), S, G))
theorem t0_1111_18 {L : Nat} {S : ov_S} {G : ov_L2} {x3 : Int32} {P : Option Value → ov_S → ov_L2 → Prop}  {out : (Int32 × ov_S × ov_L2) ⊕ ((ov_S × ov_L2) ⊕ (Int32 × ov_S × ov_L2))} (h : f0_1111_18 L S G x3 = some out) (hk : ov_sm (σ := Int32 × ov_S × ov_L2) (ε := ((ov_S × ov_L2) ⊕ (Int32 × ov_S × ov_L2))) (fun s => ov_J L 15 0 18 [some (.ref 0), some (.ref 1), some (.ref 42), some (.int s.1)] [] s.2.1 s.2.2 P) (ov_sm (fun e => ov_J L 15 0 1117 [none, none, none, none] [] e.1 e.2 P) (fun t => P (some (.int t.1)) t.2.1 t.2.2)) out) : ov_J L 15 0 1111 [some (.ref 0), some (.ref 1), some (.ref 42), some (.int x3)] [] S G P := by
  unfold f0_1111_18 at h
  refine ev_iinc (v := (x3 + (4 : Int32))) (lv1 := [some (.ref 0), some (.ref 1), some (.ref 42), some (.int (x3 + (4 : Int32)))]) od_0_1111 rfl rfl rfl ?_
  refine ev_goto (t := 18) od_0_1114 (by decide) ?_
  cases h
  exact hk
def f0_661_18 (L : Nat) (S : ov_S) (G : ov_L2) (x3 : Int32) (s0 : Int32) (s2 : Int32) : Option ((Int32 × ov_S × ov_L2) ⊕ ((ov_S × ov_L2) ⊕ (Int32 × ov_S × ov_L2))) :=
  (f202 S s0).bind fun y122 => (if s2 = y122.1 then f0_1111_18 L y122.2 G x3 else some (.inr (.inr ((0 : Int32), y122.2, G))))
theorem t0_661_18 {L : Nat} {S : ov_S} {G : ov_L2} {x3 : Int32} {s0 : Int32} {s2 : Int32} {P : Option Value → ov_S → ov_L2 → Prop}  {out : (Int32 × ov_S × ov_L2) ⊕ ((ov_S × ov_L2) ⊕ (Int32 × ov_S × ov_L2))} (h : f0_661_18 L S G x3 s0 s2 = some out) (hk : ov_sm (σ := Int32 × ov_S × ov_L2) (ε := ((ov_S × ov_L2) ⊕ (Int32 × ov_S × ov_L2))) (fun s => ov_J L 15 0 18 [some (.ref 0), some (.ref 1), some (.ref 42), some (.int s.1)] [] s.2.1 s.2.2 P) (ov_sm (fun e => ov_J L 15 0 1117 [none, none, none, none] [] e.1 e.2 P) (fun t => P (some (.int t.1)) t.2.1 t.2.2)) out) : ov_J L 15 0 661 [some (.ref 0), some (.ref 1), some (.ref 42), some (.int x3)] [.int s0, .ref 42, .int s2] S G P := by
  unfold f0_661_18 at h
  obtain ⟨y122, hy122, h⟩ := ov_bd h
  try dsimp only at h
  refine ev_cvi (y := 202) (n := 1) (a := 42) (c := 8) (as := [.int s0]) (rest := [.int s2]) (dc := 8) oc_0_661 rfl rfl rfl oO_42 rfl rfl rfl rfl (by decide) (R202  hy122) ?_
  refine ev_icmp_eq (t := 1111) od_0_664 (by decide) (fun hc123 => ?_) (fun hc123 => ?_)
  · rw [if_pos hc123] at h
    exact t0_1111_18  h hk
  · rw [if_neg hc123] at h
    refine ev_iconst (v := (0 : Int32)) od_0_667 (by decide) ?_
    cases h
    exact ev_zret od_0_668 rfl (by decide) hk
def f0_644_18 (L : Nat) (S : ov_S) (G : ov_L2) (x3 : Int32) (s0 : Int32) : Option ((Int32 × ov_S × ov_L2) ⊕ ((ov_S × ov_L2) ⊕ (Int32 × ov_S × ov_L2))) :=
  (f103 S s0).bind fun y120 => ov_ck (ov_ibb (x3 + (1 : Int32)) L) ((if (y120.2 0 ((x3 + (1 : Int32))).toNatClampNeg) = 0 then f0_661_18 L y120.2 G x3 (0 : Int32) y120.1 else f0_661_18 L y120.2 G x3 (1 : Int32) y120.1))
theorem t0_644_18 {L : Nat} {S : ov_S} {G : ov_L2} {x3 : Int32} {s0 : Int32} {P : Option Value → ov_S → ov_L2 → Prop}  {out : (Int32 × ov_S × ov_L2) ⊕ ((ov_S × ov_L2) ⊕ (Int32 × ov_S × ov_L2))} (h : f0_644_18 L S G x3 s0 = some out) (hk : ov_sm (σ := Int32 × ov_S × ov_L2) (ε := ((ov_S × ov_L2) ⊕ (Int32 × ov_S × ov_L2))) (fun s => ov_J L 15 0 18 [some (.ref 0), some (.ref 1), some (.ref 42), some (.int s.1)] [] s.2.1 s.2.2 P) (ov_sm (fun e => ov_J L 15 0 1117 [none, none, none, none] [] e.1 e.2 P) (fun t => P (some (.int t.1)) t.2.1 t.2.2)) out) : ov_J L 15 0 644 [some (.ref 0), some (.ref 1), some (.ref 42), some (.int x3)] [.int s0, .ref 1] S G P := by
  unfold f0_644_18 at h
  obtain ⟨y120, hy120, h⟩ := ov_bd h
  try dsimp only at h
  refine ev_cvi (y := 103) (n := 1) (a := 1) (c := 0) (as := [.int s0]) (rest := []) (dc := 15) oc_0_644 rfl rfl rfl oO_1 rfl rfl rfl rfl (by decide) (R103  hy120) ?_
  refine ev_aload_n od_0_647 rfl ?_
  refine ev_aload_n od_0_648 rfl ?_
  refine ev_iload_n od_0_649 rfl ?_
  refine ev_iconst (v := (1 : Int32)) od_0_650 (by decide) ?_
  refine ev_iadd od_0_651 ?_
  obtain ⟨bq121, h⟩ := ov_ck_ok h
  refine ev_scr od_0_652 (ov_ibk bq121) ?_
  refine ev_if_eq (t := 660) od_0_653 (by decide) (fun hc124 => ?_) (fun hc124 => ?_)
  · rw [if_pos hc124] at h
    refine ev_iconst (v := (0 : Int32)) od_0_660 (by decide) ?_
    exact t0_661_18  h hk
  · rw [if_neg hc124] at h
    refine ev_iconst (v := (1 : Int32)) od_0_656 (by decide) ?_
    refine ev_goto (t := 661) od_0_657 (by decide) ?_
    exact t0_661_18  h hk
def f0_819_18 (L : Nat) (S : ov_S) (G : ov_L2) (x3 : Int32) (s0 : Int32) (s1 : Int32) (s3 : Int32) : Option ((Int32 × ov_S × ov_L2) ⊕ ((ov_S × ov_L2) ⊕ (Int32 × ov_S × ov_L2))) :=
  (f211 S s1 s0).bind fun y156 => (if s3 = y156.1 then f0_1111_18 L y156.2 G x3 else some (.inr (.inr ((0 : Int32), y156.2, G))))
theorem t0_819_18 {L : Nat} {S : ov_S} {G : ov_L2} {x3 : Int32} {s0 : Int32} {s1 : Int32} {s3 : Int32} {P : Option Value → ov_S → ov_L2 → Prop}  {out : (Int32 × ov_S × ov_L2) ⊕ ((ov_S × ov_L2) ⊕ (Int32 × ov_S × ov_L2))} (h : f0_819_18 L S G x3 s0 s1 s3 = some out) (hk : ov_sm (σ := Int32 × ov_S × ov_L2) (ε := ((ov_S × ov_L2) ⊕ (Int32 × ov_S × ov_L2))) (fun s => ov_J L 15 0 18 [some (.ref 0), some (.ref 1), some (.ref 42), some (.int s.1)] [] s.2.1 s.2.2 P) (ov_sm (fun e => ov_J L 15 0 1117 [none, none, none, none] [] e.1 e.2 P) (fun t => P (some (.int t.1)) t.2.1 t.2.2)) out) : ov_J L 15 0 819 [some (.ref 0), some (.ref 1), some (.ref 42), some (.int x3)] [.int s0, .int s1, .ref 42, .int s3] S G P := by
  unfold f0_819_18 at h
  obtain ⟨y156, hy156, h⟩ := ov_bd h
  try dsimp only at h
  refine ev_cvi (y := 211) (n := 2) (a := 42) (c := 8) (as := [.int s1, .int s0]) (rest := [.int s3]) (dc := 6) oc_0_819 rfl rfl rfl oO_42 rfl rfl rfl rfl (by decide) (R211  hy156) ?_
  refine ev_icmp_eq (t := 1111) od_0_822 (by decide) (fun hc157 => ?_) (fun hc157 => ?_)
  · rw [if_pos hc157] at h
    exact t0_1111_18  h hk
  · rw [if_neg hc157] at h
    refine ev_iconst (v := (0 : Int32)) od_0_825 (by decide) ?_
    cases h
    exact ev_zret od_0_826 rfl (by decide) hk
def f0_797_18 (L : Nat) (S : ov_S) (G : ov_L2) (x3 : Int32) (s0 : Int32) (s1 : Int32) : Option ((Int32 × ov_S × ov_L2) ⊕ ((ov_S × ov_L2) ⊕ (Int32 × ov_S × ov_L2))) :=
  (f118 S s1 s0).bind fun y153 => ov_ck (ov_ibb (x3 + (1 : Int32)) L) (ov_ck (ov_ibb (x3 + (2 : Int32)) L) ((if (S 0 ((x3 + (2 : Int32))).toNatClampNeg) = 0 then f0_819_18 L S G x3 (0 : Int32) (S 0 ((x3 + (1 : Int32))).toNatClampNeg) y153 else f0_819_18 L S G x3 (1 : Int32) (S 0 ((x3 + (1 : Int32))).toNatClampNeg) y153)))
theorem t0_797_18 {L : Nat} {S : ov_S} {G : ov_L2} {x3 : Int32} {s0 : Int32} {s1 : Int32} {P : Option Value → ov_S → ov_L2 → Prop}  {out : (Int32 × ov_S × ov_L2) ⊕ ((ov_S × ov_L2) ⊕ (Int32 × ov_S × ov_L2))} (h : f0_797_18 L S G x3 s0 s1 = some out) (hk : ov_sm (σ := Int32 × ov_S × ov_L2) (ε := ((ov_S × ov_L2) ⊕ (Int32 × ov_S × ov_L2))) (fun s => ov_J L 15 0 18 [some (.ref 0), some (.ref 1), some (.ref 42), some (.int s.1)] [] s.2.1 s.2.2 P) (ov_sm (fun e => ov_J L 15 0 1117 [none, none, none, none] [] e.1 e.2 P) (fun t => P (some (.int t.1)) t.2.1 t.2.2)) out) : ov_J L 15 0 797 [some (.ref 0), some (.ref 1), some (.ref 42), some (.int x3)] [.int s0, .int s1, .ref 1] S G P := by
  unfold f0_797_18 at h
  obtain ⟨y153, hy153, h⟩ := ov_bd h
  try dsimp only at h
  refine ev_cvi (y := 118) (n := 2) (a := 1) (c := 0) (as := [.int s1, .int s0]) (rest := []) (dc := 6) oc_0_797 rfl rfl rfl oO_1 rfl rfl rfl rfl (by decide) (R118  hy153) ?_
  refine ev_aload_n od_0_800 rfl ?_
  refine ev_aload_n od_0_801 rfl ?_
  refine ev_iload_n od_0_802 rfl ?_
  refine ev_iconst (v := (1 : Int32)) od_0_803 (by decide) ?_
  refine ev_iadd od_0_804 ?_
  obtain ⟨bq154, h⟩ := ov_ck_ok h
  refine ev_scr od_0_805 (ov_ibk bq154) ?_
  refine ev_aload_n od_0_806 rfl ?_
  refine ev_iload_n od_0_807 rfl ?_
  refine ev_iconst (v := (2 : Int32)) od_0_808 (by decide) ?_
  refine ev_iadd od_0_809 ?_
  obtain ⟨bq155, h⟩ := ov_ck_ok h
  refine ev_scr od_0_810 (ov_ibk bq155) ?_
  refine ev_if_eq (t := 818) od_0_811 (by decide) (fun hc158 => ?_) (fun hc158 => ?_)
  · rw [if_pos hc158] at h
    refine ev_iconst (v := (0 : Int32)) od_0_818 (by decide) ?_
    exact t0_819_18  h hk
  · rw [if_neg hc158] at h
    refine ev_iconst (v := (1 : Int32)) od_0_814 (by decide) ?_
    refine ev_goto (t := 819) od_0_815 (by decide) ?_
    exact t0_819_18  h hk
def f0_980_18 (L : Nat) (S : ov_S) (G : ov_L2) (x3 : Int32) (s0 : Int32) (s1 : Int32) (s2 : Int32) (s4 : Int32) : Option ((Int32 × ov_S × ov_L2) ⊕ ((ov_S × ov_L2) ⊕ (Int32 × ov_S × ov_L2))) :=
  (f221 S s2 s1 s0).bind fun y194 => (if s4 = y194.1 then f0_1111_18 L y194.2 G x3 else some (.inr (.inr ((0 : Int32), y194.2, G))))
theorem t0_980_18 {L : Nat} {S : ov_S} {G : ov_L2} {x3 : Int32} {s0 : Int32} {s1 : Int32} {s2 : Int32} {s4 : Int32} {P : Option Value → ov_S → ov_L2 → Prop}  {out : (Int32 × ov_S × ov_L2) ⊕ ((ov_S × ov_L2) ⊕ (Int32 × ov_S × ov_L2))} (h : f0_980_18 L S G x3 s0 s1 s2 s4 = some out) (hk : ov_sm (σ := Int32 × ov_S × ov_L2) (ε := ((ov_S × ov_L2) ⊕ (Int32 × ov_S × ov_L2))) (fun s => ov_J L 15 0 18 [some (.ref 0), some (.ref 1), some (.ref 42), some (.int s.1)] [] s.2.1 s.2.2 P) (ov_sm (fun e => ov_J L 15 0 1117 [none, none, none, none] [] e.1 e.2 P) (fun t => P (some (.int t.1)) t.2.1 t.2.2)) out) : ov_J L 15 0 980 [some (.ref 0), some (.ref 1), some (.ref 42), some (.int x3)] [.int s0, .int s1, .int s2, .ref 42, .int s4] S G P := by
  unfold f0_980_18 at h
  obtain ⟨y194, hy194, h⟩ := ov_bd h
  try dsimp only at h
  refine ev_cvi (y := 221) (n := 3) (a := 42) (c := 8) (as := [.int s2, .int s1, .int s0]) (rest := [.int s4]) (dc := 3) oc_0_980 rfl rfl rfl oO_42 rfl rfl rfl rfl (by decide) (R221  hy194) ?_
  refine ev_icmp_eq (t := 1111) od_0_983 (by decide) (fun hc195 => ?_) (fun hc195 => ?_)
  · rw [if_pos hc195] at h
    exact t0_1111_18  h hk
  · rw [if_neg hc195] at h
    refine ev_iconst (v := (0 : Int32)) od_0_986 (by decide) ?_
    cases h
    exact ev_zret od_0_987 rfl (by decide) hk
def f0_953_18 (L : Nat) (S : ov_S) (G : ov_L2) (x3 : Int32) (s0 : Int32) (s1 : Int32) (s2 : Int32) : Option ((Int32 × ov_S × ov_L2) ⊕ ((ov_S × ov_L2) ⊕ (Int32 × ov_S × ov_L2))) :=
  (f136 S s2 s1 s0).bind fun y190 => ov_ck (ov_ibb (x3 + (1 : Int32)) L) (ov_ck (ov_ibb (x3 + (2 : Int32)) L) (ov_ck (ov_ibb (x3 + (3 : Int32)) L) ((if (S 0 ((x3 + (3 : Int32))).toNatClampNeg) = 0 then f0_980_18 L S G x3 (0 : Int32) (S 0 ((x3 + (2 : Int32))).toNatClampNeg) (S 0 ((x3 + (1 : Int32))).toNatClampNeg) y190 else f0_980_18 L S G x3 (1 : Int32) (S 0 ((x3 + (2 : Int32))).toNatClampNeg) (S 0 ((x3 + (1 : Int32))).toNatClampNeg) y190))))
theorem t0_953_18 {L : Nat} {S : ov_S} {G : ov_L2} {x3 : Int32} {s0 : Int32} {s1 : Int32} {s2 : Int32} {P : Option Value → ov_S → ov_L2 → Prop}  {out : (Int32 × ov_S × ov_L2) ⊕ ((ov_S × ov_L2) ⊕ (Int32 × ov_S × ov_L2))} (h : f0_953_18 L S G x3 s0 s1 s2 = some out) (hk : ov_sm (σ := Int32 × ov_S × ov_L2) (ε := ((ov_S × ov_L2) ⊕ (Int32 × ov_S × ov_L2))) (fun s => ov_J L 15 0 18 [some (.ref 0), some (.ref 1), some (.ref 42), some (.int s.1)] [] s.2.1 s.2.2 P) (ov_sm (fun e => ov_J L 15 0 1117 [none, none, none, none] [] e.1 e.2 P) (fun t => P (some (.int t.1)) t.2.1 t.2.2)) out) : ov_J L 15 0 953 [some (.ref 0), some (.ref 1), some (.ref 42), some (.int x3)] [.int s0, .int s1, .int s2, .ref 1] S G P := by
  unfold f0_953_18 at h
  obtain ⟨y190, hy190, h⟩ := ov_bd h
  try dsimp only at h
  refine ev_cvi (y := 136) (n := 3) (a := 1) (c := 0) (as := [.int s2, .int s1, .int s0]) (rest := []) (dc := 5) oc_0_953 rfl rfl rfl oO_1 rfl rfl rfl rfl (by decide) (R136  hy190) ?_
  refine ev_aload_n od_0_956 rfl ?_
  refine ev_aload_n od_0_957 rfl ?_
  refine ev_iload_n od_0_958 rfl ?_
  refine ev_iconst (v := (1 : Int32)) od_0_959 (by decide) ?_
  refine ev_iadd od_0_960 ?_
  obtain ⟨bq191, h⟩ := ov_ck_ok h
  refine ev_scr od_0_961 (ov_ibk bq191) ?_
  refine ev_aload_n od_0_962 rfl ?_
  refine ev_iload_n od_0_963 rfl ?_
  refine ev_iconst (v := (2 : Int32)) od_0_964 (by decide) ?_
  refine ev_iadd od_0_965 ?_
  obtain ⟨bq192, h⟩ := ov_ck_ok h
  refine ev_scr od_0_966 (ov_ibk bq192) ?_
  refine ev_aload_n od_0_967 rfl ?_
  refine ev_iload_n od_0_968 rfl ?_
  refine ev_iconst (v := (3 : Int32)) od_0_969 (by decide) ?_
  refine ev_iadd od_0_970 ?_
  obtain ⟨bq193, h⟩ := ov_ck_ok h
  refine ev_scr od_0_971 (ov_ibk bq193) ?_
  refine ev_if_eq (t := 979) od_0_972 (by decide) (fun hc196 => ?_) (fun hc196 => ?_)
  · rw [if_pos hc196] at h
    refine ev_iconst (v := (0 : Int32)) od_0_979 (by decide) ?_
    exact t0_980_18  h hk
  · rw [if_neg hc196] at h
    refine ev_iconst (v := (1 : Int32)) od_0_975 (by decide) ?_
    refine ev_goto (t := 980) od_0_976 (by decide) ?_
    exact t0_980_18  h hk
def b0_18 (L : Nat) (x3 : Int32) (S : ov_S) (G : ov_L2) : Option ((Int32 × ov_S × ov_L2) ⊕ ((ov_S × ov_L2) ⊕ (Int32 × ov_S × ov_L2))) :=
  (if ((Int32.ofNat L) - (4 : Int32)) < x3 then some (.inr (.inl (S, G))) else ov_ck (ov_ibb x3 L) ((if ((S 0 (x3).toNatClampNeg) &&& (31 : Int32)) = (0 : Int32) then ov_ck (ov_ibb (x3 + (1 : Int32)) L) ((f12 S (S 0 ((x3 + (1 : Int32))).toNatClampNeg)).bind fun y4 => ov_ck (ov_ibb (x3 + (1 : Int32)) L) ((f143 y4.2 (y4.2 0 ((x3 + (1 : Int32))).toNatClampNeg)).bind fun y6 => (if y4.1 = y6.1 then f0_1111_18 L y6.2 G x3 else some (.inr (.inr ((0 : Int32), y6.2, G)))))) else if ((S 0 (x3).toNatClampNeg) &&& (31 : Int32)) = (1 : Int32) then (f15 S).bind fun y9 => (f145 y9.2).bind fun y10 => (if y9.1 = y10.1 then f0_1111_18 L y10.2 G x3 else some (.inr (.inr ((0 : Int32), y10.2, G)))) else if ((S 0 (x3).toNatClampNeg) &&& (31 : Int32)) = (2 : Int32) then (f17 S).bind fun y13 => (f146 y13.2).bind fun y14 => (if y13.1 = y14.1 then f0_1111_18 L y14.2 G x3 else some (.inr (.inr ((0 : Int32), y14.2, G)))) else if ((S 0 (x3).toNatClampNeg) &&& (31 : Int32)) = (3 : Int32) then (f30 S).bind fun y17 => (f157 y17.2).bind fun y18 => (if y17.1 = y18.1 then f0_1111_18 L y18.2 G x3 else some (.inr (.inr ((0 : Int32), y18.2, G)))) else if ((S 0 (x3).toNatClampNeg) &&& (31 : Int32)) = (4 : Int32) then ov_ck (ov_ibb (x3 + (1 : Int32)) L) ((f32 S (S 0 ((x3 + (1 : Int32))).toNatClampNeg)).bind fun y22 => ov_ck (ov_ibb (x3 + (1 : Int32)) L) ((f159 S (S 0 ((x3 + (1 : Int32))).toNatClampNeg)).bind fun y24 => (if y22 = y24.1 then f0_1111_18 L y24.2 G x3 else some (.inr (.inr ((0 : Int32), y24.2, G)))))) else if ((S 0 (x3).toNatClampNeg) &&& (31 : Int32)) = (5 : Int32) then ov_ck (ov_ibb (x3 + (1 : Int32)) L) ((f57 S (S 0 ((x3 + (1 : Int32))).toNatClampNeg)).bind fun y28 => ov_ck (ov_ibb (x3 + (1 : Int32)) L) ((f171 S (S 0 ((x3 + (1 : Int32))).toNatClampNeg)).bind fun y30 => (if y28 = y30.1 then f0_1111_18 L y30.2 G x3 else some (.inr (.inr ((0 : Int32), y30.2, G)))))) else if ((S 0 (x3).toNatClampNeg) &&& (31 : Int32)) = (6 : Int32) then ov_ck (ov_ibb (x3 + (1 : Int32)) L) ((f60 S (S 0 ((x3 + (1 : Int32))).toNatClampNeg)).bind fun y34 => ov_ck (ov_ibb (x3 + (1 : Int32)) L) ((f173 S (S 0 ((x3 + (1 : Int32))).toNatClampNeg)).bind fun y36 => (if y34 = y36.1 then f0_1111_18 L y36.2 G x3 else some (.inr (.inr ((0 : Int32), y36.2, G)))))) else if ((S 0 (x3).toNatClampNeg) &&& (31 : Int32)) = (7 : Int32) then ov_ck (ov_ibb (x3 + (1 : Int32)) L) (ov_ck (ov_ibb (x3 + (2 : Int32)) L) ((f62 S (S 0 ((x3 + (1 : Int32))).toNatClampNeg) (S 0 ((x3 + (2 : Int32))).toNatClampNeg)).bind fun y41 => ov_ck (ov_ibb (x3 + (1 : Int32)) L) (ov_ck (ov_ibb (x3 + (2 : Int32)) L) ((f174 S (S 0 ((x3 + (1 : Int32))).toNatClampNeg) (S 0 ((x3 + (2 : Int32))).toNatClampNeg)).bind fun y44 => (if y41 = y44.1 then f0_1111_18 L y44.2 G x3 else some (.inr (.inr ((0 : Int32), y44.2, G)))))))) else if ((S 0 (x3).toNatClampNeg) &&& (31 : Int32)) = (8 : Int32) then ov_ck (ov_ibb (x3 + (1 : Int32)) L) (ov_ck (ov_ibb (x3 + (2 : Int32)) L) ((f70 S (S 0 ((x3 + (1 : Int32))).toNatClampNeg) (S 0 ((x3 + (2 : Int32))).toNatClampNeg)).bind fun y49 => ov_ck (ov_ibb (x3 + (1 : Int32)) L) (ov_ck (ov_ibb (x3 + (2 : Int32)) L) ((f181 S (S 0 ((x3 + (1 : Int32))).toNatClampNeg) (S 0 ((x3 + (2 : Int32))).toNatClampNeg)).bind fun y52 => (if y49 = y52.1 then f0_1111_18 L y52.2 G x3 else some (.inr (.inr ((0 : Int32), y52.2, G)))))))) else if ((S 0 (x3).toNatClampNeg) &&& (31 : Int32)) = (9 : Int32) then ov_ck (ov_ibb (x3 + (1 : Int32)) L) ((f71 S (S 0 ((x3 + (1 : Int32))).toNatClampNeg)).bind fun y56 => ov_ck (ov_ibb (x3 + (1 : Int32)) L) ((f182 S (S 0 ((x3 + (1 : Int32))).toNatClampNeg)).bind fun y58 => (if y56 = y58.1 then f0_1111_18 L y58.2 G x3 else some (.inr (.inr ((0 : Int32), y58.2, G)))))) else if ((S 0 (x3).toNatClampNeg) &&& (31 : Int32)) = (10 : Int32) then ov_ck (ov_ibb (x3 + (1 : Int32)) L) (ov_ck (ov_ibb (x3 + (2 : Int32)) L) ((f73 S (S 0 ((x3 + (1 : Int32))).toNatClampNeg) (S 0 ((x3 + (2 : Int32))).toNatClampNeg)).bind fun y63 => ov_ck (ov_ibb (x3 + (1 : Int32)) L) (ov_ck (ov_ibb (x3 + (2 : Int32)) L) ((f184 y63.2 (y63.2 0 ((x3 + (1 : Int32))).toNatClampNeg) (y63.2 0 ((x3 + (2 : Int32))).toNatClampNeg)).bind fun y66 => (if y63.1 = y66.1 then f0_1111_18 L y66.2 G x3 else some (.inr (.inr ((0 : Int32), y66.2, G)))))))) else if ((S 0 (x3).toNatClampNeg) &&& (31 : Int32)) = (11 : Int32) then ov_ck (ov_ibb (x3 + (1 : Int32)) L) (ov_ck (ov_ibb (x3 + (2 : Int32)) L) ((f77 S (S 0 ((x3 + (1 : Int32))).toNatClampNeg) (S 0 ((x3 + (2 : Int32))).toNatClampNeg)).bind fun y71 => ov_ck (ov_ibb (x3 + (1 : Int32)) L) (ov_ck (ov_ibb (x3 + (2 : Int32)) L) ((f188 y71.2 (y71.2 0 ((x3 + (1 : Int32))).toNatClampNeg) (y71.2 0 ((x3 + (2 : Int32))).toNatClampNeg)).bind fun y74 => (if y71.1 = y74.1 then f0_1111_18 L y74.2 G x3 else some (.inr (.inr ((0 : Int32), y74.2, G)))))))) else if ((S 0 (x3).toNatClampNeg) &&& (31 : Int32)) = (12 : Int32) then ov_ck (ov_ibb (x3 + (1 : Int32)) L) ((f80 S (S 0 ((x3 + (1 : Int32))).toNatClampNeg)).bind fun y78 => ov_ck (ov_ibb (x3 + (1 : Int32)) L) ((f190 y78.2 (y78.2 0 ((x3 + (1 : Int32))).toNatClampNeg)).bind fun y80 => (if y78.1 = y80.1 then f0_1111_18 L y80.2 G x3 else some (.inr (.inr ((0 : Int32), y80.2, G)))))) else if ((S 0 (x3).toNatClampNeg) &&& (31 : Int32)) = (13 : Int32) then ov_ck (ov_ibb (x3 + (1 : Int32)) L) (ov_ck (ov_ibb (x3 + (2 : Int32)) L) ((f82 S (S 0 ((x3 + (1 : Int32))).toNatClampNeg) (S 0 ((x3 + (2 : Int32))).toNatClampNeg)).bind fun y85 => ov_ck (ov_ibb (x3 + (1 : Int32)) L) (ov_ck (ov_ibb (x3 + (2 : Int32)) L) ((f192 y85.2 (y85.2 0 ((x3 + (1 : Int32))).toNatClampNeg) (y85.2 0 ((x3 + (2 : Int32))).toNatClampNeg)).bind fun y88 => (if y85.1 = y88.1 then f0_1111_18 L y88.2 G x3 else some (.inr (.inr ((0 : Int32), y88.2, G)))))))) else if ((S 0 (x3).toNatClampNeg) &&& (31 : Int32)) = (14 : Int32) then (f85 S).bind fun y91 => (f195 y91.2).bind fun y92 => (if y91.1 = y92.1 then f0_1111_18 L y92.2 G x3 else some (.inr (.inr ((0 : Int32), y92.2, G)))) else if ((S 0 (x3).toNatClampNeg) &&& (31 : Int32)) = (15 : Int32) then ov_ck (ov_ibb (x3 + (1 : Int32)) L) (ov_ck (ov_ibb (x3 + (2 : Int32)) L) ((f93 S (S 0 ((x3 + (1 : Int32))).toNatClampNeg) (S 0 ((x3 + (2 : Int32))).toNatClampNeg)).bind fun y97 => ov_ck (ov_ibb (x3 + (1 : Int32)) L) (ov_ck (ov_ibb (x3 + (2 : Int32)) L) ((f196 S (S 0 ((x3 + (1 : Int32))).toNatClampNeg) (S 0 ((x3 + (2 : Int32))).toNatClampNeg)).bind fun y100 => (if y97 = y100.1 then f0_1111_18 L y100.2 G x3 else some (.inr (.inr ((0 : Int32), y100.2, G)))))))) else if ((S 0 (x3).toNatClampNeg) &&& (31 : Int32)) = (16 : Int32) then ov_ck (ov_ibb (x3 + (1 : Int32)) L) (ov_ck (ov_ibb (x3 + (2 : Int32)) L) ((f95 S (S 0 ((x3 + (1 : Int32))).toNatClampNeg) (S 0 ((x3 + (2 : Int32))).toNatClampNeg)).bind fun y105 => ov_ck (ov_ibb (x3 + (1 : Int32)) L) (ov_ck (ov_ibb (x3 + (2 : Int32)) L) ((f197 y105.2 (y105.2 0 ((x3 + (1 : Int32))).toNatClampNeg) (y105.2 0 ((x3 + (2 : Int32))).toNatClampNeg)).bind fun y108 => (if y105.1 = y108.1 then f0_1111_18 L y108.2 G x3 else some (.inr (.inr ((0 : Int32), y108.2, G)))))))) else if ((S 0 (x3).toNatClampNeg) &&& (31 : Int32)) = (17 : Int32) then ov_ck (ov_ibb (x3 + (1 : Int32)) L) (ov_ck (ov_ibb (x3 + (2 : Int32)) L) ((f100 S (S 0 ((x3 + (1 : Int32))).toNatClampNeg) (S 0 ((x3 + (2 : Int32))).toNatClampNeg)).bind fun y113 => ov_ck (ov_ibb (x3 + (1 : Int32)) L) (ov_ck (ov_ibb (x3 + (2 : Int32)) L) ((f200 y113.2 (y113.2 0 ((x3 + (1 : Int32))).toNatClampNeg) (y113.2 0 ((x3 + (2 : Int32))).toNatClampNeg)).bind fun y116 => (if y113.1 = y116.1 then f0_1111_18 L y116.2 G x3 else some (.inr (.inr ((0 : Int32), y116.2, G)))))))) else if ((S 0 (x3).toNatClampNeg) &&& (31 : Int32)) = (18 : Int32) then ov_ck (ov_ibb (x3 + (1 : Int32)) L) ((if (S 0 ((x3 + (1 : Int32))).toNatClampNeg) = 0 then f0_644_18 L S G x3 (0 : Int32) else f0_644_18 L S G x3 (1 : Int32))) else if ((S 0 (x3).toNatClampNeg) &&& (31 : Int32)) = (19 : Int32) then ov_ck (ov_ibb (x3 + (1 : Int32)) L) ((f110 S (S 0 ((x3 + (1 : Int32))).toNatClampNeg)).bind fun y128 => ov_ck (ov_ibb (x3 + (1 : Int32)) L) ((f206 S (S 0 ((x3 + (1 : Int32))).toNatClampNeg)).bind fun y130 => (if y128 = y130.1 then f0_1111_18 L y130.2 G x3 else some (.inr (.inr ((0 : Int32), y130.2, G)))))) else if ((S 0 (x3).toNatClampNeg) &&& (31 : Int32)) = (20 : Int32) then ov_ck (ov_ibb (x3 + (1 : Int32)) L) ((f112 S (S 0 ((x3 + (1 : Int32))).toNatClampNeg)).bind fun y134 => ov_ck (ov_ibb (x3 + (1 : Int32)) L) ((f207 S (S 0 ((x3 + (1 : Int32))).toNatClampNeg)).bind fun y136 => (if y134 = y136.1 then f0_1111_18 L y136.2 G x3 else some (.inr (.inr ((0 : Int32), y136.2, G)))))) else if ((S 0 (x3).toNatClampNeg) &&& (31 : Int32)) = (21 : Int32) then ov_ck (ov_ibb (x3 + (1 : Int32)) L) (ov_ck (ov_ibb (x3 + (2 : Int32)) L) (ov_ck (ov_ibb (x3 + (3 : Int32)) L) ((f114 S (S 0 ((x3 + (1 : Int32))).toNatClampNeg) ((((S 0 ((x3 + (2 : Int32))).toNatClampNeg)).toInt64 <<< (((32 : Int32)).toInt64 &&& 63)) ||| (((S 0 ((x3 + (3 : Int32))).toNatClampNeg)).toInt64 &&& (4294967295 : Int64)))).bind fun y143 => ov_ck (ov_ibb (x3 + (1 : Int32)) L) (ov_ck (ov_ibb (x3 + (2 : Int32)) L) (ov_ck (ov_ibb (x3 + (3 : Int32)) L) ((f208 y143.2 (y143.2 0 ((x3 + (1 : Int32))).toNatClampNeg) ((((y143.2 0 ((x3 + (2 : Int32))).toNatClampNeg)).toInt64 <<< (((32 : Int32)).toInt64 &&& 63)) ||| (((y143.2 0 ((x3 + (3 : Int32))).toNatClampNeg)).toInt64 &&& (4294967295 : Int64)))).bind fun y148 => (if y143.1 = y148.1 then f0_1111_18 L y148.2 G x3 else some (.inr (.inr ((0 : Int32), y148.2, G)))))))))) else if ((S 0 (x3).toNatClampNeg) &&& (31 : Int32)) = (22 : Int32) then ov_ck (ov_ibb (x3 + (1 : Int32)) L) (ov_ck (ov_ibb (x3 + (2 : Int32)) L) ((if (S 0 ((x3 + (2 : Int32))).toNatClampNeg) = 0 then f0_797_18 L S G x3 (0 : Int32) (S 0 ((x3 + (1 : Int32))).toNatClampNeg) else f0_797_18 L S G x3 (1 : Int32) (S 0 ((x3 + (1 : Int32))).toNatClampNeg)))) else if ((S 0 (x3).toNatClampNeg) &&& (31 : Int32)) = (23 : Int32) then ov_ck (ov_ibb (x3 + (1 : Int32)) L) (ov_ck (ov_ibb (x3 + (2 : Int32)) L) ((f123 S (S 0 ((x3 + (1 : Int32))).toNatClampNeg) (S 0 ((x3 + (2 : Int32))).toNatClampNeg)).bind fun y163 => ov_ck (ov_ibb (x3 + (1 : Int32)) L) (ov_ck (ov_ibb (x3 + (2 : Int32)) L) ((f215 y163.2 (y163.2 0 ((x3 + (1 : Int32))).toNatClampNeg) (y163.2 0 ((x3 + (2 : Int32))).toNatClampNeg)).bind fun y166 => (if y163.1 = y166.1 then f0_1111_18 L y166.2 G x3 else some (.inr (.inr ((0 : Int32), y166.2, G)))))))) else if ((S 0 (x3).toNatClampNeg) &&& (31 : Int32)) = (24 : Int32) then (f125 S).bind fun y169 => (f216 y169.2).bind fun y170 => (if y169.1 = y170.1 then f0_1111_18 L y170.2 G x3 else some (.inr (.inr ((0 : Int32), y170.2, G)))) else if ((S 0 (x3).toNatClampNeg) &&& (31 : Int32)) = (25 : Int32) then (f127 S).bind fun y173 => (f217 S).bind fun y174 => (if y173 = y174.1 then f0_1111_18 L y174.2 G x3 else some (.inr (.inr ((0 : Int32), y174.2, G)))) else if ((S 0 (x3).toNatClampNeg) &&& (31 : Int32)) = (26 : Int32) then ov_ck (ov_ibb (x3 + (1 : Int32)) L) (ov_ck (ov_ibb (x3 + (2 : Int32)) L) (ov_ck (ov_ibb (x3 + (3 : Int32)) L) ((f129 S (S 0 ((x3 + (1 : Int32))).toNatClampNeg) (S 0 ((x3 + (2 : Int32))).toNatClampNeg) (S 0 ((x3 + (3 : Int32))).toNatClampNeg)).bind fun y180 => ov_ck (ov_ibb (x3 + (1 : Int32)) L) (ov_ck (ov_ibb (x3 + (2 : Int32)) L) (ov_ck (ov_ibb (x3 + (3 : Int32)) L) ((f218 y180.2 (y180.2 0 ((x3 + (1 : Int32))).toNatClampNeg) (y180.2 0 ((x3 + (2 : Int32))).toNatClampNeg) (y180.2 0 ((x3 + (3 : Int32))).toNatClampNeg)).bind fun y184 => (if y180.1 = y184.1 then f0_1111_18 L y184.2 G x3 else some (.inr (.inr ((0 : Int32), y184.2, G)))))))))) else if ((S 0 (x3).toNatClampNeg) &&& (31 : Int32)) = (27 : Int32) then ov_ck (ov_ibb (x3 + (1 : Int32)) L) (ov_ck (ov_ibb (x3 + (2 : Int32)) L) (ov_ck (ov_ibb (x3 + (3 : Int32)) L) ((if (S 0 ((x3 + (3 : Int32))).toNatClampNeg) = 0 then f0_953_18 L S G x3 (0 : Int32) (S 0 ((x3 + (2 : Int32))).toNatClampNeg) (S 0 ((x3 + (1 : Int32))).toNatClampNeg) else f0_953_18 L S G x3 (1 : Int32) (S 0 ((x3 + (2 : Int32))).toNatClampNeg) (S 0 ((x3 + (1 : Int32))).toNatClampNeg))))) else if ((S 0 (x3).toNatClampNeg) &&& (31 : Int32)) = (28 : Int32) then ov_ck (ov_ibb (x3 + (1 : Int32)) L) (ov_ck (ov_ibb (x3 + (2 : Int32)) L) ((f138 S G ((((S 0 ((x3 + (1 : Int32))).toNatClampNeg)).toInt64 <<< (((32 : Int32)).toInt64 &&& 63)) ||| (((S 0 ((x3 + (2 : Int32))).toNatClampNeg)).toInt64 &&& (4294967295 : Int64)))).bind fun y202 => ov_ck (ov_ibb (x3 + (1 : Int32)) L) (ov_ck (ov_ibb (x3 + (2 : Int32)) L) ((f222 y202.2.1 y202.2.2 ((((y202.2.1 0 ((x3 + (1 : Int32))).toNatClampNeg)).toInt64 <<< (((32 : Int32)).toInt64 &&& 63)) ||| (((y202.2.1 0 ((x3 + (2 : Int32))).toNatClampNeg)).toInt64 &&& (4294967295 : Int64)))).bind fun y206 => (if (lg_cmp y202.1 y206.1) = 0 then f0_1111_18 L y206.2.1 y206.2.2 x3 else some (.inr (.inr ((0 : Int32), y206.2.1, y206.2.2)))))))) else if ((S 0 (x3).toNatClampNeg) &&& (31 : Int32)) = (29 : Int32) then ov_ck (ov_ibb (x3 + (1 : Int32)) L) ((f139 S G (S 0 ((x3 + (1 : Int32))).toNatClampNeg)).bind fun y210 => ov_ck (ov_ibb (x3 + (1 : Int32)) L) ((f223 y210.2.1 y210.2.2 (y210.2.1 0 ((x3 + (1 : Int32))).toNatClampNeg)).bind fun y212 => (if y210.1 = y212.1 then f0_1111_18 L y212.2.1 y212.2.2 x3 else some (.inr (.inr ((0 : Int32), y212.2.1, y212.2.2)))))) else if ((S 0 (x3).toNatClampNeg) &&& (31 : Int32)) = (30 : Int32) then ov_ck (ov_ibb (x3 + (1 : Int32)) L) ((f140 S (S 0 ((x3 + (1 : Int32))).toNatClampNeg)).bind fun y216 => ov_ck (ov_ibb (x3 + (1 : Int32)) L) ((f224 y216.2 (y216.2 0 ((x3 + (1 : Int32))).toNatClampNeg)).bind fun y218 => (if y216.1 = y218.1 then f0_1111_18 L y218.2 G x3 else some (.inr (.inr ((0 : Int32), y218.2, G)))))) else if ((S 0 (x3).toNatClampNeg) &&& (31 : Int32)) = (31 : Int32) then ov_ck (ov_ibb (x3 + (1 : Int32)) L) ((f141 S (S 0 ((x3 + (1 : Int32))).toNatClampNeg)).bind fun y222 => ov_ck (ov_ibb (x3 + (1 : Int32)) L) ((f225 y222.2 (y222.2 0 ((x3 + (1 : Int32))).toNatClampNeg)).bind fun y224 => (if y222.1 = y224.1 then f0_1111_18 L y224.2 G x3 else some (.inr (.inr ((0 : Int32), y224.2, G)))))) else f0_1111_18 L S G x3)))
theorem bt0_18 {L : Nat} {S : ov_S} {G : ov_L2} {x3 : Int32} {P : Option Value → ov_S → ov_L2 → Prop}  {out : (Int32 × ov_S × ov_L2) ⊕ ((ov_S × ov_L2) ⊕ (Int32 × ov_S × ov_L2))} (h : b0_18 L x3 S G = some out) (hk : ov_sm (σ := Int32 × ov_S × ov_L2) (ε := ((ov_S × ov_L2) ⊕ (Int32 × ov_S × ov_L2))) (fun s => ov_J L 15 0 18 [some (.ref 0), some (.ref 1), some (.ref 42), some (.int s.1)] [] s.2.1 s.2.2 P) (ov_sm (fun e => ov_J L 15 0 1117 [none, none, none, none] [] e.1 e.2 P) (fun t => P (some (.int t.1)) t.2.1 t.2.2)) out) : ov_J L 15 0 18 [some (.ref 0), some (.ref 1), some (.ref 42), some (.int x3)] [] S G P := by
  unfold b0_18 at h
  refine ev_iload_n od_0_18 rfl ?_
  refine ev_aload_n od_0_19 rfl ?_
  refine ev_alen od_0_20 ?_
  refine ev_iconst (v := (4 : Int32)) od_0_21 (by decide) ?_
  refine ev_isub od_0_22 ?_
  refine ev_icmp_gt (t := 1117) od_0_23 (by decide) (fun hc226 => ?_) (fun hc226 => ?_)
  · rw [if_pos hc226] at h
    cases h
    refine ev_fg (lv0 := [none, none, none, none]) (ov_le_n (ov_le_n (ov_le_n (ov_le_n (ov_le_e))))) ?_
    exact hk
  · rw [if_neg hc226] at h
    refine ev_aload_n od_0_26 rfl ?_
    refine ev_iload_n od_0_27 rfl ?_
    obtain ⟨bq1, h⟩ := ov_ck_ok h
    refine ev_scr od_0_28 (ov_ibk bq1) ?_
    refine ev_bipush (v := (31 : Int32)) od_0_29 (by decide) ?_
    refine ev_iand od_0_31 ?_
    by_cases hc2 : ((S 0 (x3).toNatClampNeg) &&& (31 : Int32)) = (0 : Int32)
    · rw [if_pos hc2] at h
      refine ev_tsc (off := 144) (t := 176) hc2 od_0_32 (by decide) (by decide) ?_
      refine ev_aload_n od_0_176 rfl ?_
      refine ev_aload_n od_0_177 rfl ?_
      refine ev_iload_n od_0_178 rfl ?_
      refine ev_iconst (v := (1 : Int32)) od_0_179 (by decide) ?_
      refine ev_iadd od_0_180 ?_
      obtain ⟨bq3, h⟩ := ov_ck_ok h
      refine ev_scr od_0_181 (ov_ibk bq3) ?_
      obtain ⟨y4, hy4, h⟩ := ov_bd h
      try dsimp only at h
      refine ev_cvi (y := 12) (n := 1) (a := 1) (c := 0) (as := [.int (S 0 ((x3 + (1 : Int32))).toNatClampNeg)]) (rest := []) (dc := 2) oc_0_182 rfl rfl rfl oO_1 rfl rfl rfl rfl (by decide) (R12  hy4) ?_
      refine ev_aload_n od_0_185 rfl ?_
      refine ev_aload_n od_0_186 rfl ?_
      refine ev_iload_n od_0_187 rfl ?_
      refine ev_iconst (v := (1 : Int32)) od_0_188 (by decide) ?_
      refine ev_iadd od_0_189 ?_
      obtain ⟨bq5, h⟩ := ov_ck_ok h
      refine ev_scr od_0_190 (ov_ibk bq5) ?_
      obtain ⟨y6, hy6, h⟩ := ov_bd h
      try dsimp only at h
      refine ev_cvi (y := 143) (n := 1) (a := 42) (c := 8) (as := [.int (y4.2 0 ((x3 + (1 : Int32))).toNatClampNeg)]) (rest := [.int y4.1]) (dc := 2) oc_0_191 rfl rfl rfl oO_42 rfl rfl rfl rfl (by decide) (R143  hy6) ?_
      refine ev_icmp_eq (t := 1111) od_0_194 (by decide) (fun hc7 => ?_) (fun hc7 => ?_)
      · rw [if_pos hc7] at h
        exact t0_1111_18  h hk
      · rw [if_neg hc7] at h
        refine ev_iconst (v := (0 : Int32)) od_0_197 (by decide) ?_
        cases h
        exact ev_zret od_0_198 rfl (by decide) hk
    rw [if_neg hc2] at h
    by_cases hc8 : ((S 0 (x3).toNatClampNeg) &&& (31 : Int32)) = (1 : Int32)
    · rw [if_pos hc8] at h
      refine ev_tsc (off := 167) (t := 199) hc8 od_0_32 (by decide) (by decide) ?_
      refine ev_aload_n od_0_199 rfl ?_
      obtain ⟨y9, hy9, h⟩ := ov_bd h
      try dsimp only at h
      refine ev_cvi (y := 15) (n := 0) (a := 1) (c := 0) (as := []) (rest := []) (dc := 2) oc_0_200 rfl rfl rfl oO_1 rfl rfl rfl rfl (by decide) (R15  hy9) ?_
      refine ev_aload_n od_0_203 rfl ?_
      obtain ⟨y10, hy10, h⟩ := ov_bd h
      try dsimp only at h
      refine ev_cvi (y := 145) (n := 0) (a := 42) (c := 8) (as := []) (rest := [.int y9.1]) (dc := 1) oc_0_204 rfl rfl rfl oO_42 rfl rfl rfl rfl (by decide) (R145  hy10) ?_
      refine ev_icmp_eq (t := 1111) od_0_207 (by decide) (fun hc11 => ?_) (fun hc11 => ?_)
      · rw [if_pos hc11] at h
        exact t0_1111_18  h hk
      · rw [if_neg hc11] at h
        refine ev_iconst (v := (0 : Int32)) od_0_210 (by decide) ?_
        cases h
        exact ev_zret od_0_211 rfl (by decide) hk
    rw [if_neg hc8] at h
    by_cases hc12 : ((S 0 (x3).toNatClampNeg) &&& (31 : Int32)) = (2 : Int32)
    · rw [if_pos hc12] at h
      refine ev_tsc (off := 180) (t := 212) hc12 od_0_32 (by decide) (by decide) ?_
      refine ev_aload_n od_0_212 rfl ?_
      obtain ⟨y13, hy13, h⟩ := ov_bd h
      try dsimp only at h
      refine ev_cvi (y := 17) (n := 0) (a := 1) (c := 0) (as := []) (rest := []) (dc := 5) oc_0_213 rfl rfl rfl oO_1 rfl rfl rfl rfl (by decide) (R17  hy13) ?_
      refine ev_aload_n od_0_216 rfl ?_
      obtain ⟨y14, hy14, h⟩ := ov_bd h
      try dsimp only at h
      refine ev_cvi (y := 146) (n := 0) (a := 42) (c := 8) (as := []) (rest := [.int y13.1]) (dc := 6) oc_0_217 rfl rfl rfl oO_42 rfl rfl rfl rfl (by decide) (R146  hy14) ?_
      refine ev_icmp_eq (t := 1111) od_0_220 (by decide) (fun hc15 => ?_) (fun hc15 => ?_)
      · rw [if_pos hc15] at h
        exact t0_1111_18  h hk
      · rw [if_neg hc15] at h
        refine ev_iconst (v := (0 : Int32)) od_0_223 (by decide) ?_
        cases h
        exact ev_zret od_0_224 rfl (by decide) hk
    rw [if_neg hc12] at h
    by_cases hc16 : ((S 0 (x3).toNatClampNeg) &&& (31 : Int32)) = (3 : Int32)
    · rw [if_pos hc16] at h
      refine ev_tsc (off := 193) (t := 225) hc16 od_0_32 (by decide) (by decide) ?_
      refine ev_aload_n od_0_225 rfl ?_
      obtain ⟨y17, hy17, h⟩ := ov_bd h
      try dsimp only at h
      refine ev_cvi (y := 30) (n := 0) (a := 1) (c := 0) (as := []) (rest := []) (dc := 5) oc_0_226 rfl rfl rfl oO_1 rfl rfl rfl rfl (by decide) (R30  hy17) ?_
      refine ev_aload_n od_0_229 rfl ?_
      obtain ⟨y18, hy18, h⟩ := ov_bd h
      try dsimp only at h
      refine ev_cvi (y := 157) (n := 0) (a := 42) (c := 8) (as := []) (rest := [.int y17.1]) (dc := 6) oc_0_230 rfl rfl rfl oO_42 rfl rfl rfl rfl (by decide) (R157  hy18) ?_
      refine ev_icmp_eq (t := 1111) od_0_233 (by decide) (fun hc19 => ?_) (fun hc19 => ?_)
      · rw [if_pos hc19] at h
        exact t0_1111_18  h hk
      · rw [if_neg hc19] at h
        refine ev_iconst (v := (0 : Int32)) od_0_236 (by decide) ?_
        cases h
        exact ev_zret od_0_237 rfl (by decide) hk
    rw [if_neg hc16] at h
    by_cases hc20 : ((S 0 (x3).toNatClampNeg) &&& (31 : Int32)) = (4 : Int32)
    · rw [if_pos hc20] at h
      refine ev_tsc (off := 206) (t := 238) hc20 od_0_32 (by decide) (by decide) ?_
      refine ev_aload_n od_0_238 rfl ?_
      refine ev_aload_n od_0_239 rfl ?_
      refine ev_iload_n od_0_240 rfl ?_
      refine ev_iconst (v := (1 : Int32)) od_0_241 (by decide) ?_
      refine ev_iadd od_0_242 ?_
      obtain ⟨bq21, h⟩ := ov_ck_ok h
      refine ev_scr od_0_243 (ov_ibk bq21) ?_
      obtain ⟨y22, hy22, h⟩ := ov_bd h
      try dsimp only at h
      refine ev_cvi (y := 32) (n := 1) (a := 1) (c := 0) (as := [.int (S 0 ((x3 + (1 : Int32))).toNatClampNeg)]) (rest := []) (dc := 6) oc_0_244 rfl rfl rfl oO_1 rfl rfl rfl rfl (by decide) (R32  hy22) ?_
      refine ev_aload_n od_0_247 rfl ?_
      refine ev_aload_n od_0_248 rfl ?_
      refine ev_iload_n od_0_249 rfl ?_
      refine ev_iconst (v := (1 : Int32)) od_0_250 (by decide) ?_
      refine ev_iadd od_0_251 ?_
      obtain ⟨bq23, h⟩ := ov_ck_ok h
      refine ev_scr od_0_252 (ov_ibk bq23) ?_
      obtain ⟨y24, hy24, h⟩ := ov_bd h
      try dsimp only at h
      refine ev_cvi (y := 159) (n := 1) (a := 42) (c := 8) (as := [.int (S 0 ((x3 + (1 : Int32))).toNatClampNeg)]) (rest := [.int y22]) (dc := 6) oc_0_253 rfl rfl rfl oO_42 rfl rfl rfl rfl (by decide) (R159  hy24) ?_
      refine ev_icmp_eq (t := 1111) od_0_256 (by decide) (fun hc25 => ?_) (fun hc25 => ?_)
      · rw [if_pos hc25] at h
        exact t0_1111_18  h hk
      · rw [if_neg hc25] at h
        refine ev_iconst (v := (0 : Int32)) od_0_259 (by decide) ?_
        cases h
        exact ev_zret od_0_260 rfl (by decide) hk
    rw [if_neg hc20] at h
    by_cases hc26 : ((S 0 (x3).toNatClampNeg) &&& (31 : Int32)) = (5 : Int32)
    · rw [if_pos hc26] at h
      refine ev_tsc (off := 229) (t := 261) hc26 od_0_32 (by decide) (by decide) ?_
      refine ev_aload_n od_0_261 rfl ?_
      refine ev_aload_n od_0_262 rfl ?_
      refine ev_iload_n od_0_263 rfl ?_
      refine ev_iconst (v := (1 : Int32)) od_0_264 (by decide) ?_
      refine ev_iadd od_0_265 ?_
      obtain ⟨bq27, h⟩ := ov_ck_ok h
      refine ev_scr od_0_266 (ov_ibk bq27) ?_
      obtain ⟨y28, hy28, h⟩ := ov_bd h
      try dsimp only at h
      refine ev_cvi (y := 57) (n := 1) (a := 1) (c := 0) (as := [.int (S 0 ((x3 + (1 : Int32))).toNatClampNeg)]) (rest := []) (dc := 3) oc_0_267 rfl rfl rfl oO_1 rfl rfl rfl rfl (by decide) (R57  hy28) ?_
      refine ev_aload_n od_0_270 rfl ?_
      refine ev_aload_n od_0_271 rfl ?_
      refine ev_iload_n od_0_272 rfl ?_
      refine ev_iconst (v := (1 : Int32)) od_0_273 (by decide) ?_
      refine ev_iadd od_0_274 ?_
      obtain ⟨bq29, h⟩ := ov_ck_ok h
      refine ev_scr od_0_275 (ov_ibk bq29) ?_
      obtain ⟨y30, hy30, h⟩ := ov_bd h
      try dsimp only at h
      refine ev_cvi (y := 171) (n := 1) (a := 42) (c := 8) (as := [.int (S 0 ((x3 + (1 : Int32))).toNatClampNeg)]) (rest := [.int y28]) (dc := 3) oc_0_276 rfl rfl rfl oO_42 rfl rfl rfl rfl (by decide) (R171  hy30) ?_
      refine ev_icmp_eq (t := 1111) od_0_279 (by decide) (fun hc31 => ?_) (fun hc31 => ?_)
      · rw [if_pos hc31] at h
        exact t0_1111_18  h hk
      · rw [if_neg hc31] at h
        refine ev_iconst (v := (0 : Int32)) od_0_282 (by decide) ?_
        cases h
        exact ev_zret od_0_283 rfl (by decide) hk
    rw [if_neg hc26] at h
    by_cases hc32 : ((S 0 (x3).toNatClampNeg) &&& (31 : Int32)) = (6 : Int32)
    · rw [if_pos hc32] at h
      refine ev_tsc (off := 252) (t := 284) hc32 od_0_32 (by decide) (by decide) ?_
      refine ev_aload_n od_0_284 rfl ?_
      refine ev_aload_n od_0_285 rfl ?_
      refine ev_iload_n od_0_286 rfl ?_
      refine ev_iconst (v := (1 : Int32)) od_0_287 (by decide) ?_
      refine ev_iadd od_0_288 ?_
      obtain ⟨bq33, h⟩ := ov_ck_ok h
      refine ev_scr od_0_289 (ov_ibk bq33) ?_
      obtain ⟨y34, hy34, h⟩ := ov_bd h
      try dsimp only at h
      refine ev_cvi (y := 60) (n := 1) (a := 1) (c := 0) (as := [.int (S 0 ((x3 + (1 : Int32))).toNatClampNeg)]) (rest := []) (dc := 3) oc_0_290 rfl rfl rfl oO_1 rfl rfl rfl rfl (by decide) (R60  hy34) ?_
      refine ev_aload_n od_0_293 rfl ?_
      refine ev_aload_n od_0_294 rfl ?_
      refine ev_iload_n od_0_295 rfl ?_
      refine ev_iconst (v := (1 : Int32)) od_0_296 (by decide) ?_
      refine ev_iadd od_0_297 ?_
      obtain ⟨bq35, h⟩ := ov_ck_ok h
      refine ev_scr od_0_298 (ov_ibk bq35) ?_
      obtain ⟨y36, hy36, h⟩ := ov_bd h
      try dsimp only at h
      refine ev_cvi (y := 173) (n := 1) (a := 42) (c := 8) (as := [.int (S 0 ((x3 + (1 : Int32))).toNatClampNeg)]) (rest := [.int y34]) (dc := 2) oc_0_299 rfl rfl rfl oO_42 rfl rfl rfl rfl (by decide) (R173  hy36) ?_
      refine ev_icmp_eq (t := 1111) od_0_302 (by decide) (fun hc37 => ?_) (fun hc37 => ?_)
      · rw [if_pos hc37] at h
        exact t0_1111_18  h hk
      · rw [if_neg hc37] at h
        refine ev_iconst (v := (0 : Int32)) od_0_305 (by decide) ?_
        cases h
        exact ev_zret od_0_306 rfl (by decide) hk
    rw [if_neg hc32] at h
    by_cases hc38 : ((S 0 (x3).toNatClampNeg) &&& (31 : Int32)) = (7 : Int32)
    · rw [if_pos hc38] at h
      refine ev_tsc (off := 275) (t := 307) hc38 od_0_32 (by decide) (by decide) ?_
      refine ev_aload_n od_0_307 rfl ?_
      refine ev_aload_n od_0_308 rfl ?_
      refine ev_iload_n od_0_309 rfl ?_
      refine ev_iconst (v := (1 : Int32)) od_0_310 (by decide) ?_
      refine ev_iadd od_0_311 ?_
      obtain ⟨bq39, h⟩ := ov_ck_ok h
      refine ev_scr od_0_312 (ov_ibk bq39) ?_
      refine ev_aload_n od_0_313 rfl ?_
      refine ev_iload_n od_0_314 rfl ?_
      refine ev_iconst (v := (2 : Int32)) od_0_315 (by decide) ?_
      refine ev_iadd od_0_316 ?_
      obtain ⟨bq40, h⟩ := ov_ck_ok h
      refine ev_scr od_0_317 (ov_ibk bq40) ?_
      obtain ⟨y41, hy41, h⟩ := ov_bd h
      try dsimp only at h
      refine ev_cvi (y := 62) (n := 2) (a := 1) (c := 0) (as := [.int (S 0 ((x3 + (1 : Int32))).toNatClampNeg), .int (S 0 ((x3 + (2 : Int32))).toNatClampNeg)]) (rest := []) (dc := 5) oc_0_318 rfl rfl rfl oO_1 rfl rfl rfl rfl (by decide) (R62  hy41) ?_
      refine ev_aload_n od_0_321 rfl ?_
      refine ev_aload_n od_0_322 rfl ?_
      refine ev_iload_n od_0_323 rfl ?_
      refine ev_iconst (v := (1 : Int32)) od_0_324 (by decide) ?_
      refine ev_iadd od_0_325 ?_
      obtain ⟨bq42, h⟩ := ov_ck_ok h
      refine ev_scr od_0_326 (ov_ibk bq42) ?_
      refine ev_aload_n od_0_327 rfl ?_
      refine ev_iload_n od_0_328 rfl ?_
      refine ev_iconst (v := (2 : Int32)) od_0_329 (by decide) ?_
      refine ev_iadd od_0_330 ?_
      obtain ⟨bq43, h⟩ := ov_ck_ok h
      refine ev_scr od_0_331 (ov_ibk bq43) ?_
      obtain ⟨y44, hy44, h⟩ := ov_bd h
      try dsimp only at h
      refine ev_cvi (y := 174) (n := 2) (a := 42) (c := 8) (as := [.int (S 0 ((x3 + (1 : Int32))).toNatClampNeg), .int (S 0 ((x3 + (2 : Int32))).toNatClampNeg)]) (rest := [.int y41]) (dc := 5) oc_0_332 rfl rfl rfl oO_42 rfl rfl rfl rfl (by decide) (R174  hy44) ?_
      refine ev_icmp_eq (t := 1111) od_0_335 (by decide) (fun hc45 => ?_) (fun hc45 => ?_)
      · rw [if_pos hc45] at h
        exact t0_1111_18  h hk
      · rw [if_neg hc45] at h
        refine ev_iconst (v := (0 : Int32)) od_0_338 (by decide) ?_
        cases h
        exact ev_zret od_0_339 rfl (by decide) hk
    rw [if_neg hc38] at h
    by_cases hc46 : ((S 0 (x3).toNatClampNeg) &&& (31 : Int32)) = (8 : Int32)
    · rw [if_pos hc46] at h
      refine ev_tsc (off := 308) (t := 340) hc46 od_0_32 (by decide) (by decide) ?_
      refine ev_aload_n od_0_340 rfl ?_
      refine ev_aload_n od_0_341 rfl ?_
      refine ev_iload_n od_0_342 rfl ?_
      refine ev_iconst (v := (1 : Int32)) od_0_343 (by decide) ?_
      refine ev_iadd od_0_344 ?_
      obtain ⟨bq47, h⟩ := ov_ck_ok h
      refine ev_scr od_0_345 (ov_ibk bq47) ?_
      refine ev_aload_n od_0_346 rfl ?_
      refine ev_iload_n od_0_347 rfl ?_
      refine ev_iconst (v := (2 : Int32)) od_0_348 (by decide) ?_
      refine ev_iadd od_0_349 ?_
      obtain ⟨bq48, h⟩ := ov_ck_ok h
      refine ev_scr od_0_350 (ov_ibk bq48) ?_
      obtain ⟨y49, hy49, h⟩ := ov_bd h
      try dsimp only at h
      refine ev_cvi (y := 70) (n := 2) (a := 1) (c := 0) (as := [.int (S 0 ((x3 + (1 : Int32))).toNatClampNeg), .int (S 0 ((x3 + (2 : Int32))).toNatClampNeg)]) (rest := []) (dc := 5) oc_0_351 rfl rfl rfl oO_1 rfl rfl rfl rfl (by decide) (R70  hy49) ?_
      refine ev_aload_n od_0_354 rfl ?_
      refine ev_aload_n od_0_355 rfl ?_
      refine ev_iload_n od_0_356 rfl ?_
      refine ev_iconst (v := (1 : Int32)) od_0_357 (by decide) ?_
      refine ev_iadd od_0_358 ?_
      obtain ⟨bq50, h⟩ := ov_ck_ok h
      refine ev_scr od_0_359 (ov_ibk bq50) ?_
      refine ev_aload_n od_0_360 rfl ?_
      refine ev_iload_n od_0_361 rfl ?_
      refine ev_iconst (v := (2 : Int32)) od_0_362 (by decide) ?_
      refine ev_iadd od_0_363 ?_
      obtain ⟨bq51, h⟩ := ov_ck_ok h
      refine ev_scr od_0_364 (ov_ibk bq51) ?_
      obtain ⟨y52, hy52, h⟩ := ov_bd h
      try dsimp only at h
      refine ev_cvi (y := 181) (n := 2) (a := 42) (c := 8) (as := [.int (S 0 ((x3 + (1 : Int32))).toNatClampNeg), .int (S 0 ((x3 + (2 : Int32))).toNatClampNeg)]) (rest := [.int y49]) (dc := 5) oc_0_365 rfl rfl rfl oO_42 rfl rfl rfl rfl (by decide) (R181  hy52) ?_
      refine ev_icmp_eq (t := 1111) od_0_368 (by decide) (fun hc53 => ?_) (fun hc53 => ?_)
      · rw [if_pos hc53] at h
        exact t0_1111_18  h hk
      · rw [if_neg hc53] at h
        refine ev_iconst (v := (0 : Int32)) od_0_371 (by decide) ?_
        cases h
        exact ev_zret od_0_372 rfl (by decide) hk
    rw [if_neg hc46] at h
    by_cases hc54 : ((S 0 (x3).toNatClampNeg) &&& (31 : Int32)) = (9 : Int32)
    · rw [if_pos hc54] at h
      refine ev_tsc (off := 341) (t := 373) hc54 od_0_32 (by decide) (by decide) ?_
      refine ev_aload_n od_0_373 rfl ?_
      refine ev_aload_n od_0_374 rfl ?_
      refine ev_iload_n od_0_375 rfl ?_
      refine ev_iconst (v := (1 : Int32)) od_0_376 (by decide) ?_
      refine ev_iadd od_0_377 ?_
      obtain ⟨bq55, h⟩ := ov_ck_ok h
      refine ev_scr od_0_378 (ov_ibk bq55) ?_
      obtain ⟨y56, hy56, h⟩ := ov_bd h
      try dsimp only at h
      refine ev_cvi (y := 71) (n := 1) (a := 1) (c := 0) (as := [.int (S 0 ((x3 + (1 : Int32))).toNatClampNeg)]) (rest := []) (dc := 5) oc_0_379 rfl rfl rfl oO_1 rfl rfl rfl rfl (by decide) (R71  hy56) ?_
      refine ev_aload_n od_0_382 rfl ?_
      refine ev_aload_n od_0_383 rfl ?_
      refine ev_iload_n od_0_384 rfl ?_
      refine ev_iconst (v := (1 : Int32)) od_0_385 (by decide) ?_
      refine ev_iadd od_0_386 ?_
      obtain ⟨bq57, h⟩ := ov_ck_ok h
      refine ev_scr od_0_387 (ov_ibk bq57) ?_
      obtain ⟨y58, hy58, h⟩ := ov_bd h
      try dsimp only at h
      refine ev_cvi (y := 182) (n := 1) (a := 42) (c := 8) (as := [.int (S 0 ((x3 + (1 : Int32))).toNatClampNeg)]) (rest := [.int y56]) (dc := 2) oc_0_388 rfl rfl rfl oO_42 rfl rfl rfl rfl (by decide) (R182  hy58) ?_
      refine ev_icmp_eq (t := 1111) od_0_391 (by decide) (fun hc59 => ?_) (fun hc59 => ?_)
      · rw [if_pos hc59] at h
        exact t0_1111_18  h hk
      · rw [if_neg hc59] at h
        refine ev_iconst (v := (0 : Int32)) od_0_394 (by decide) ?_
        cases h
        exact ev_zret od_0_395 rfl (by decide) hk
    rw [if_neg hc54] at h
    by_cases hc60 : ((S 0 (x3).toNatClampNeg) &&& (31 : Int32)) = (10 : Int32)
    · rw [if_pos hc60] at h
      refine ev_tsc (off := 364) (t := 396) hc60 od_0_32 (by decide) (by decide) ?_
      refine ev_aload_n od_0_396 rfl ?_
      refine ev_aload_n od_0_397 rfl ?_
      refine ev_iload_n od_0_398 rfl ?_
      refine ev_iconst (v := (1 : Int32)) od_0_399 (by decide) ?_
      refine ev_iadd od_0_400 ?_
      obtain ⟨bq61, h⟩ := ov_ck_ok h
      refine ev_scr od_0_401 (ov_ibk bq61) ?_
      refine ev_aload_n od_0_402 rfl ?_
      refine ev_iload_n od_0_403 rfl ?_
      refine ev_iconst (v := (2 : Int32)) od_0_404 (by decide) ?_
      refine ev_iadd od_0_405 ?_
      obtain ⟨bq62, h⟩ := ov_ck_ok h
      refine ev_scr od_0_406 (ov_ibk bq62) ?_
      obtain ⟨y63, hy63, h⟩ := ov_bd h
      try dsimp only at h
      refine ev_cvi (y := 73) (n := 2) (a := 1) (c := 0) (as := [.int (S 0 ((x3 + (1 : Int32))).toNatClampNeg), .int (S 0 ((x3 + (2 : Int32))).toNatClampNeg)]) (rest := []) (dc := 5) oc_0_407 rfl rfl rfl oO_1 rfl rfl rfl rfl (by decide) (R73  hy63) ?_
      refine ev_aload_n od_0_410 rfl ?_
      refine ev_aload_n od_0_411 rfl ?_
      refine ev_iload_n od_0_412 rfl ?_
      refine ev_iconst (v := (1 : Int32)) od_0_413 (by decide) ?_
      refine ev_iadd od_0_414 ?_
      obtain ⟨bq64, h⟩ := ov_ck_ok h
      refine ev_scr od_0_415 (ov_ibk bq64) ?_
      refine ev_aload_n od_0_416 rfl ?_
      refine ev_iload_n od_0_417 rfl ?_
      refine ev_iconst (v := (2 : Int32)) od_0_418 (by decide) ?_
      refine ev_iadd od_0_419 ?_
      obtain ⟨bq65, h⟩ := ov_ck_ok h
      refine ev_scr od_0_420 (ov_ibk bq65) ?_
      obtain ⟨y66, hy66, h⟩ := ov_bd h
      try dsimp only at h
      refine ev_cvi (y := 184) (n := 2) (a := 42) (c := 8) (as := [.int (y63.2 0 ((x3 + (1 : Int32))).toNatClampNeg), .int (y63.2 0 ((x3 + (2 : Int32))).toNatClampNeg)]) (rest := [.int y63.1]) (dc := 5) oc_0_421 rfl rfl rfl oO_42 rfl rfl rfl rfl (by decide) (R184  hy66) ?_
      refine ev_icmp_eq (t := 1111) od_0_424 (by decide) (fun hc67 => ?_) (fun hc67 => ?_)
      · rw [if_pos hc67] at h
        exact t0_1111_18  h hk
      · rw [if_neg hc67] at h
        refine ev_iconst (v := (0 : Int32)) od_0_427 (by decide) ?_
        cases h
        exact ev_zret od_0_428 rfl (by decide) hk
    rw [if_neg hc60] at h
    by_cases hc68 : ((S 0 (x3).toNatClampNeg) &&& (31 : Int32)) = (11 : Int32)
    · rw [if_pos hc68] at h
      refine ev_tsc (off := 397) (t := 429) hc68 od_0_32 (by decide) (by decide) ?_
      refine ev_aload_n od_0_429 rfl ?_
      refine ev_aload_n od_0_430 rfl ?_
      refine ev_iload_n od_0_431 rfl ?_
      refine ev_iconst (v := (1 : Int32)) od_0_432 (by decide) ?_
      refine ev_iadd od_0_433 ?_
      obtain ⟨bq69, h⟩ := ov_ck_ok h
      refine ev_scr od_0_434 (ov_ibk bq69) ?_
      refine ev_aload_n od_0_435 rfl ?_
      refine ev_iload_n od_0_436 rfl ?_
      refine ev_iconst (v := (2 : Int32)) od_0_437 (by decide) ?_
      refine ev_iadd od_0_438 ?_
      obtain ⟨bq70, h⟩ := ov_ck_ok h
      refine ev_scr od_0_439 (ov_ibk bq70) ?_
      obtain ⟨y71, hy71, h⟩ := ov_bd h
      try dsimp only at h
      refine ev_cvi (y := 77) (n := 2) (a := 1) (c := 0) (as := [.int (S 0 ((x3 + (1 : Int32))).toNatClampNeg), .int (S 0 ((x3 + (2 : Int32))).toNatClampNeg)]) (rest := []) (dc := 6) oc_0_440 rfl rfl rfl oO_1 rfl rfl rfl rfl (by decide) (R77  hy71) ?_
      refine ev_aload_n od_0_443 rfl ?_
      refine ev_aload_n od_0_444 rfl ?_
      refine ev_iload_n od_0_445 rfl ?_
      refine ev_iconst (v := (1 : Int32)) od_0_446 (by decide) ?_
      refine ev_iadd od_0_447 ?_
      obtain ⟨bq72, h⟩ := ov_ck_ok h
      refine ev_scr od_0_448 (ov_ibk bq72) ?_
      refine ev_aload_n od_0_449 rfl ?_
      refine ev_iload_n od_0_450 rfl ?_
      refine ev_iconst (v := (2 : Int32)) od_0_451 (by decide) ?_
      refine ev_iadd od_0_452 ?_
      obtain ⟨bq73, h⟩ := ov_ck_ok h
      refine ev_scr od_0_453 (ov_ibk bq73) ?_
      obtain ⟨y74, hy74, h⟩ := ov_bd h
      try dsimp only at h
      refine ev_cvi (y := 188) (n := 2) (a := 42) (c := 8) (as := [.int (y71.2 0 ((x3 + (1 : Int32))).toNatClampNeg), .int (y71.2 0 ((x3 + (2 : Int32))).toNatClampNeg)]) (rest := [.int y71.1]) (dc := 5) oc_0_454 rfl rfl rfl oO_42 rfl rfl rfl rfl (by decide) (R188  hy74) ?_
      refine ev_icmp_eq (t := 1111) od_0_457 (by decide) (fun hc75 => ?_) (fun hc75 => ?_)
      · rw [if_pos hc75] at h
        exact t0_1111_18  h hk
      · rw [if_neg hc75] at h
        refine ev_iconst (v := (0 : Int32)) od_0_460 (by decide) ?_
        cases h
        exact ev_zret od_0_461 rfl (by decide) hk
    rw [if_neg hc68] at h
    by_cases hc76 : ((S 0 (x3).toNatClampNeg) &&& (31 : Int32)) = (12 : Int32)
    · rw [if_pos hc76] at h
      refine ev_tsc (off := 430) (t := 462) hc76 od_0_32 (by decide) (by decide) ?_
      refine ev_aload_n od_0_462 rfl ?_
      refine ev_aload_n od_0_463 rfl ?_
      refine ev_iload_n od_0_464 rfl ?_
      refine ev_iconst (v := (1 : Int32)) od_0_465 (by decide) ?_
      refine ev_iadd od_0_466 ?_
      obtain ⟨bq77, h⟩ := ov_ck_ok h
      refine ev_scr od_0_467 (ov_ibk bq77) ?_
      obtain ⟨y78, hy78, h⟩ := ov_bd h
      try dsimp only at h
      refine ev_cvi (y := 80) (n := 1) (a := 1) (c := 0) (as := [.int (S 0 ((x3 + (1 : Int32))).toNatClampNeg)]) (rest := []) (dc := 6) oc_0_468 rfl rfl rfl oO_1 rfl rfl rfl rfl (by decide) (R80  hy78) ?_
      refine ev_aload_n od_0_471 rfl ?_
      refine ev_aload_n od_0_472 rfl ?_
      refine ev_iload_n od_0_473 rfl ?_
      refine ev_iconst (v := (1 : Int32)) od_0_474 (by decide) ?_
      refine ev_iadd od_0_475 ?_
      obtain ⟨bq79, h⟩ := ov_ck_ok h
      refine ev_scr od_0_476 (ov_ibk bq79) ?_
      obtain ⟨y80, hy80, h⟩ := ov_bd h
      try dsimp only at h
      refine ev_cvi (y := 190) (n := 1) (a := 42) (c := 8) (as := [.int (y78.2 0 ((x3 + (1 : Int32))).toNatClampNeg)]) (rest := [.int y78.1]) (dc := 5) oc_0_477 rfl rfl rfl oO_42 rfl rfl rfl rfl (by decide) (R190  hy80) ?_
      refine ev_icmp_eq (t := 1111) od_0_480 (by decide) (fun hc81 => ?_) (fun hc81 => ?_)
      · rw [if_pos hc81] at h
        exact t0_1111_18  h hk
      · rw [if_neg hc81] at h
        refine ev_iconst (v := (0 : Int32)) od_0_483 (by decide) ?_
        cases h
        exact ev_zret od_0_484 rfl (by decide) hk
    rw [if_neg hc76] at h
    by_cases hc82 : ((S 0 (x3).toNatClampNeg) &&& (31 : Int32)) = (13 : Int32)
    · rw [if_pos hc82] at h
      refine ev_tsc (off := 453) (t := 485) hc82 od_0_32 (by decide) (by decide) ?_
      refine ev_aload_n od_0_485 rfl ?_
      refine ev_aload_n od_0_486 rfl ?_
      refine ev_iload_n od_0_487 rfl ?_
      refine ev_iconst (v := (1 : Int32)) od_0_488 (by decide) ?_
      refine ev_iadd od_0_489 ?_
      obtain ⟨bq83, h⟩ := ov_ck_ok h
      refine ev_scr od_0_490 (ov_ibk bq83) ?_
      refine ev_aload_n od_0_491 rfl ?_
      refine ev_iload_n od_0_492 rfl ?_
      refine ev_iconst (v := (2 : Int32)) od_0_493 (by decide) ?_
      refine ev_iadd od_0_494 ?_
      obtain ⟨bq84, h⟩ := ov_ck_ok h
      refine ev_scr od_0_495 (ov_ibk bq84) ?_
      obtain ⟨y85, hy85, h⟩ := ov_bd h
      try dsimp only at h
      refine ev_cvi (y := 82) (n := 2) (a := 1) (c := 0) (as := [.int (S 0 ((x3 + (1 : Int32))).toNatClampNeg), .int (S 0 ((x3 + (2 : Int32))).toNatClampNeg)]) (rest := []) (dc := 5) oc_0_496 rfl rfl rfl oO_1 rfl rfl rfl rfl (by decide) (R82  hy85) ?_
      refine ev_aload_n od_0_499 rfl ?_
      refine ev_aload_n od_0_500 rfl ?_
      refine ev_iload_n od_0_501 rfl ?_
      refine ev_iconst (v := (1 : Int32)) od_0_502 (by decide) ?_
      refine ev_iadd od_0_503 ?_
      obtain ⟨bq86, h⟩ := ov_ck_ok h
      refine ev_scr od_0_504 (ov_ibk bq86) ?_
      refine ev_aload_n od_0_505 rfl ?_
      refine ev_iload_n od_0_506 rfl ?_
      refine ev_iconst (v := (2 : Int32)) od_0_507 (by decide) ?_
      refine ev_iadd od_0_508 ?_
      obtain ⟨bq87, h⟩ := ov_ck_ok h
      refine ev_scr od_0_509 (ov_ibk bq87) ?_
      obtain ⟨y88, hy88, h⟩ := ov_bd h
      try dsimp only at h
      refine ev_cvi (y := 192) (n := 2) (a := 42) (c := 8) (as := [.int (y85.2 0 ((x3 + (1 : Int32))).toNatClampNeg), .int (y85.2 0 ((x3 + (2 : Int32))).toNatClampNeg)]) (rest := [.int y85.1]) (dc := 4) oc_0_510 rfl rfl rfl oO_42 rfl rfl rfl rfl (by decide) (R192  hy88) ?_
      refine ev_icmp_eq (t := 1111) od_0_513 (by decide) (fun hc89 => ?_) (fun hc89 => ?_)
      · rw [if_pos hc89] at h
        exact t0_1111_18  h hk
      · rw [if_neg hc89] at h
        refine ev_iconst (v := (0 : Int32)) od_0_516 (by decide) ?_
        cases h
        exact ev_zret od_0_517 rfl (by decide) hk
    rw [if_neg hc82] at h
    by_cases hc90 : ((S 0 (x3).toNatClampNeg) &&& (31 : Int32)) = (14 : Int32)
    · rw [if_pos hc90] at h
      refine ev_tsc (off := 486) (t := 518) hc90 od_0_32 (by decide) (by decide) ?_
      refine ev_aload_n od_0_518 rfl ?_
      obtain ⟨y91, hy91, h⟩ := ov_bd h
      try dsimp only at h
      refine ev_cvi (y := 85) (n := 0) (a := 1) (c := 0) (as := []) (rest := []) (dc := 4) oc_0_519 rfl rfl rfl oO_1 rfl rfl rfl rfl (by decide) (R85  hy91) ?_
      refine ev_aload_n od_0_522 rfl ?_
      obtain ⟨y92, hy92, h⟩ := ov_bd h
      try dsimp only at h
      refine ev_cvi (y := 195) (n := 0) (a := 42) (c := 8) (as := []) (rest := [.int y91.1]) (dc := 1) oc_0_523 rfl rfl rfl oO_42 rfl rfl rfl rfl (by decide) (R195  hy92) ?_
      refine ev_icmp_eq (t := 1111) od_0_526 (by decide) (fun hc93 => ?_) (fun hc93 => ?_)
      · rw [if_pos hc93] at h
        exact t0_1111_18  h hk
      · rw [if_neg hc93] at h
        refine ev_iconst (v := (0 : Int32)) od_0_529 (by decide) ?_
        cases h
        exact ev_zret od_0_530 rfl (by decide) hk
    rw [if_neg hc90] at h
    by_cases hc94 : ((S 0 (x3).toNatClampNeg) &&& (31 : Int32)) = (15 : Int32)
    · rw [if_pos hc94] at h
      refine ev_tsc (off := 499) (t := 531) hc94 od_0_32 (by decide) (by decide) ?_
      refine ev_aload_n od_0_531 rfl ?_
      refine ev_aload_n od_0_532 rfl ?_
      refine ev_iload_n od_0_533 rfl ?_
      refine ev_iconst (v := (1 : Int32)) od_0_534 (by decide) ?_
      refine ev_iadd od_0_535 ?_
      obtain ⟨bq95, h⟩ := ov_ck_ok h
      refine ev_scr od_0_536 (ov_ibk bq95) ?_
      refine ev_aload_n od_0_537 rfl ?_
      refine ev_iload_n od_0_538 rfl ?_
      refine ev_iconst (v := (2 : Int32)) od_0_539 (by decide) ?_
      refine ev_iadd od_0_540 ?_
      obtain ⟨bq96, h⟩ := ov_ck_ok h
      refine ev_scr od_0_541 (ov_ibk bq96) ?_
      obtain ⟨y97, hy97, h⟩ := ov_bd h
      try dsimp only at h
      refine ev_cvi (y := 93) (n := 2) (a := 1) (c := 0) (as := [.int (S 0 ((x3 + (1 : Int32))).toNatClampNeg), .int (S 0 ((x3 + (2 : Int32))).toNatClampNeg)]) (rest := []) (dc := 5) oc_0_542 rfl rfl rfl oO_1 rfl rfl rfl rfl (by decide) (R93  hy97) ?_
      refine ev_aload_n od_0_545 rfl ?_
      refine ev_aload_n od_0_546 rfl ?_
      refine ev_iload_n od_0_547 rfl ?_
      refine ev_iconst (v := (1 : Int32)) od_0_548 (by decide) ?_
      refine ev_iadd od_0_549 ?_
      obtain ⟨bq98, h⟩ := ov_ck_ok h
      refine ev_scr od_0_550 (ov_ibk bq98) ?_
      refine ev_aload_n od_0_551 rfl ?_
      refine ev_iload_n od_0_552 rfl ?_
      refine ev_iconst (v := (2 : Int32)) od_0_553 (by decide) ?_
      refine ev_iadd od_0_554 ?_
      obtain ⟨bq99, h⟩ := ov_ck_ok h
      refine ev_scr od_0_555 (ov_ibk bq99) ?_
      obtain ⟨y100, hy100, h⟩ := ov_bd h
      try dsimp only at h
      refine ev_cvi (y := 196) (n := 2) (a := 42) (c := 8) (as := [.int (S 0 ((x3 + (1 : Int32))).toNatClampNeg), .int (S 0 ((x3 + (2 : Int32))).toNatClampNeg)]) (rest := [.int y97]) (dc := 4) oc_0_556 rfl rfl rfl oO_42 rfl rfl rfl rfl (by decide) (R196  hy100) ?_
      refine ev_icmp_eq (t := 1111) od_0_559 (by decide) (fun hc101 => ?_) (fun hc101 => ?_)
      · rw [if_pos hc101] at h
        exact t0_1111_18  h hk
      · rw [if_neg hc101] at h
        refine ev_iconst (v := (0 : Int32)) od_0_562 (by decide) ?_
        cases h
        exact ev_zret od_0_563 rfl (by decide) hk
    rw [if_neg hc94] at h
    by_cases hc102 : ((S 0 (x3).toNatClampNeg) &&& (31 : Int32)) = (16 : Int32)
    · rw [if_pos hc102] at h
      refine ev_tsc (off := 532) (t := 564) hc102 od_0_32 (by decide) (by decide) ?_
      refine ev_aload_n od_0_564 rfl ?_
      refine ev_aload_n od_0_565 rfl ?_
      refine ev_iload_n od_0_566 rfl ?_
      refine ev_iconst (v := (1 : Int32)) od_0_567 (by decide) ?_
      refine ev_iadd od_0_568 ?_
      obtain ⟨bq103, h⟩ := ov_ck_ok h
      refine ev_scr od_0_569 (ov_ibk bq103) ?_
      refine ev_aload_n od_0_570 rfl ?_
      refine ev_iload_n od_0_571 rfl ?_
      refine ev_iconst (v := (2 : Int32)) od_0_572 (by decide) ?_
      refine ev_iadd od_0_573 ?_
      obtain ⟨bq104, h⟩ := ov_ck_ok h
      refine ev_scr od_0_574 (ov_ibk bq104) ?_
      obtain ⟨y105, hy105, h⟩ := ov_bd h
      try dsimp only at h
      refine ev_cvi (y := 95) (n := 2) (a := 1) (c := 0) (as := [.int (S 0 ((x3 + (1 : Int32))).toNatClampNeg), .int (S 0 ((x3 + (2 : Int32))).toNatClampNeg)]) (rest := []) (dc := 7) oc_0_575 rfl rfl rfl oO_1 rfl rfl rfl rfl (by decide) (R95  hy105) ?_
      refine ev_aload_n od_0_578 rfl ?_
      refine ev_aload_n od_0_579 rfl ?_
      refine ev_iload_n od_0_580 rfl ?_
      refine ev_iconst (v := (1 : Int32)) od_0_581 (by decide) ?_
      refine ev_iadd od_0_582 ?_
      obtain ⟨bq106, h⟩ := ov_ck_ok h
      refine ev_scr od_0_583 (ov_ibk bq106) ?_
      refine ev_aload_n od_0_584 rfl ?_
      refine ev_iload_n od_0_585 rfl ?_
      refine ev_iconst (v := (2 : Int32)) od_0_586 (by decide) ?_
      refine ev_iadd od_0_587 ?_
      obtain ⟨bq107, h⟩ := ov_ck_ok h
      refine ev_scr od_0_588 (ov_ibk bq107) ?_
      obtain ⟨y108, hy108, h⟩ := ov_bd h
      try dsimp only at h
      refine ev_cvi (y := 197) (n := 2) (a := 42) (c := 8) (as := [.int (y105.2 0 ((x3 + (1 : Int32))).toNatClampNeg), .int (y105.2 0 ((x3 + (2 : Int32))).toNatClampNeg)]) (rest := [.int y105.1]) (dc := 7) oc_0_589 rfl rfl rfl oO_42 rfl rfl rfl rfl (by decide) (R197  hy108) ?_
      refine ev_icmp_eq (t := 1111) od_0_592 (by decide) (fun hc109 => ?_) (fun hc109 => ?_)
      · rw [if_pos hc109] at h
        exact t0_1111_18  h hk
      · rw [if_neg hc109] at h
        refine ev_iconst (v := (0 : Int32)) od_0_595 (by decide) ?_
        cases h
        exact ev_zret od_0_596 rfl (by decide) hk
    rw [if_neg hc102] at h
    by_cases hc110 : ((S 0 (x3).toNatClampNeg) &&& (31 : Int32)) = (17 : Int32)
    · rw [if_pos hc110] at h
      refine ev_tsc (off := 565) (t := 597) hc110 od_0_32 (by decide) (by decide) ?_
      refine ev_aload_n od_0_597 rfl ?_
      refine ev_aload_n od_0_598 rfl ?_
      refine ev_iload_n od_0_599 rfl ?_
      refine ev_iconst (v := (1 : Int32)) od_0_600 (by decide) ?_
      refine ev_iadd od_0_601 ?_
      obtain ⟨bq111, h⟩ := ov_ck_ok h
      refine ev_scr od_0_602 (ov_ibk bq111) ?_
      refine ev_aload_n od_0_603 rfl ?_
      refine ev_iload_n od_0_604 rfl ?_
      refine ev_iconst (v := (2 : Int32)) od_0_605 (by decide) ?_
      refine ev_iadd od_0_606 ?_
      obtain ⟨bq112, h⟩ := ov_ck_ok h
      refine ev_scr od_0_607 (ov_ibk bq112) ?_
      obtain ⟨y113, hy113, h⟩ := ov_bd h
      try dsimp only at h
      refine ev_cvi (y := 100) (n := 2) (a := 1) (c := 0) (as := [.int (S 0 ((x3 + (1 : Int32))).toNatClampNeg), .int (S 0 ((x3 + (2 : Int32))).toNatClampNeg)]) (rest := []) (dc := 6) oc_0_608 rfl rfl rfl oO_1 rfl rfl rfl rfl (by decide) (R100  hy113) ?_
      refine ev_aload_n od_0_611 rfl ?_
      refine ev_aload_n od_0_612 rfl ?_
      refine ev_iload_n od_0_613 rfl ?_
      refine ev_iconst (v := (1 : Int32)) od_0_614 (by decide) ?_
      refine ev_iadd od_0_615 ?_
      obtain ⟨bq114, h⟩ := ov_ck_ok h
      refine ev_scr od_0_616 (ov_ibk bq114) ?_
      refine ev_aload_n od_0_617 rfl ?_
      refine ev_iload_n od_0_618 rfl ?_
      refine ev_iconst (v := (2 : Int32)) od_0_619 (by decide) ?_
      refine ev_iadd od_0_620 ?_
      obtain ⟨bq115, h⟩ := ov_ck_ok h
      refine ev_scr od_0_621 (ov_ibk bq115) ?_
      obtain ⟨y116, hy116, h⟩ := ov_bd h
      try dsimp only at h
      refine ev_cvi (y := 200) (n := 2) (a := 42) (c := 8) (as := [.int (y113.2 0 ((x3 + (1 : Int32))).toNatClampNeg), .int (y113.2 0 ((x3 + (2 : Int32))).toNatClampNeg)]) (rest := [.int y113.1]) (dc := 6) oc_0_622 rfl rfl rfl oO_42 rfl rfl rfl rfl (by decide) (R200  hy116) ?_
      refine ev_icmp_eq (t := 1111) od_0_625 (by decide) (fun hc117 => ?_) (fun hc117 => ?_)
      · rw [if_pos hc117] at h
        exact t0_1111_18  h hk
      · rw [if_neg hc117] at h
        refine ev_iconst (v := (0 : Int32)) od_0_628 (by decide) ?_
        cases h
        exact ev_zret od_0_629 rfl (by decide) hk
    rw [if_neg hc110] at h
    by_cases hc118 : ((S 0 (x3).toNatClampNeg) &&& (31 : Int32)) = (18 : Int32)
    · rw [if_pos hc118] at h
      refine ev_tsc (off := 598) (t := 630) hc118 od_0_32 (by decide) (by decide) ?_
      refine ev_aload_n od_0_630 rfl ?_
      refine ev_aload_n od_0_631 rfl ?_
      refine ev_iload_n od_0_632 rfl ?_
      refine ev_iconst (v := (1 : Int32)) od_0_633 (by decide) ?_
      refine ev_iadd od_0_634 ?_
      obtain ⟨bq119, h⟩ := ov_ck_ok h
      refine ev_scr od_0_635 (ov_ibk bq119) ?_
      refine ev_if_eq (t := 643) od_0_636 (by decide) (fun hc125 => ?_) (fun hc125 => ?_)
      · rw [if_pos hc125] at h
        refine ev_iconst (v := (0 : Int32)) od_0_643 (by decide) ?_
        exact t0_644_18  h hk
      · rw [if_neg hc125] at h
        refine ev_iconst (v := (1 : Int32)) od_0_639 (by decide) ?_
        refine ev_goto (t := 644) od_0_640 (by decide) ?_
        exact t0_644_18  h hk
    rw [if_neg hc118] at h
    by_cases hc126 : ((S 0 (x3).toNatClampNeg) &&& (31 : Int32)) = (19 : Int32)
    · rw [if_pos hc126] at h
      refine ev_tsc (off := 637) (t := 669) hc126 od_0_32 (by decide) (by decide) ?_
      refine ev_aload_n od_0_669 rfl ?_
      refine ev_aload_n od_0_670 rfl ?_
      refine ev_iload_n od_0_671 rfl ?_
      refine ev_iconst (v := (1 : Int32)) od_0_672 (by decide) ?_
      refine ev_iadd od_0_673 ?_
      obtain ⟨bq127, h⟩ := ov_ck_ok h
      refine ev_scr od_0_674 (ov_ibk bq127) ?_
      obtain ⟨y128, hy128, h⟩ := ov_bd h
      try dsimp only at h
      refine ev_cvi (y := 110) (n := 1) (a := 1) (c := 0) (as := [.int (S 0 ((x3 + (1 : Int32))).toNatClampNeg)]) (rest := []) (dc := 4) oc_0_675 rfl rfl rfl oO_1 rfl rfl rfl rfl (by decide) (R110  hy128) ?_
      refine ev_aload_n od_0_678 rfl ?_
      refine ev_aload_n od_0_679 rfl ?_
      refine ev_iload_n od_0_680 rfl ?_
      refine ev_iconst (v := (1 : Int32)) od_0_681 (by decide) ?_
      refine ev_iadd od_0_682 ?_
      obtain ⟨bq129, h⟩ := ov_ck_ok h
      refine ev_scr od_0_683 (ov_ibk bq129) ?_
      obtain ⟨y130, hy130, h⟩ := ov_bd h
      try dsimp only at h
      refine ev_cvi (y := 206) (n := 1) (a := 42) (c := 8) (as := [.int (S 0 ((x3 + (1 : Int32))).toNatClampNeg)]) (rest := [.int y128]) (dc := 4) oc_0_684 rfl rfl rfl oO_42 rfl rfl rfl rfl (by decide) (R206  hy130) ?_
      refine ev_icmp_eq (t := 1111) od_0_687 (by decide) (fun hc131 => ?_) (fun hc131 => ?_)
      · rw [if_pos hc131] at h
        exact t0_1111_18  h hk
      · rw [if_neg hc131] at h
        refine ev_iconst (v := (0 : Int32)) od_0_690 (by decide) ?_
        cases h
        exact ev_zret od_0_691 rfl (by decide) hk
    rw [if_neg hc126] at h
    by_cases hc132 : ((S 0 (x3).toNatClampNeg) &&& (31 : Int32)) = (20 : Int32)
    · rw [if_pos hc132] at h
      refine ev_tsc (off := 660) (t := 692) hc132 od_0_32 (by decide) (by decide) ?_
      refine ev_aload_n od_0_692 rfl ?_
      refine ev_aload_n od_0_693 rfl ?_
      refine ev_iload_n od_0_694 rfl ?_
      refine ev_iconst (v := (1 : Int32)) od_0_695 (by decide) ?_
      refine ev_iadd od_0_696 ?_
      obtain ⟨bq133, h⟩ := ov_ck_ok h
      refine ev_scr od_0_697 (ov_ibk bq133) ?_
      obtain ⟨y134, hy134, h⟩ := ov_bd h
      try dsimp only at h
      refine ev_cvi (y := 112) (n := 1) (a := 1) (c := 0) (as := [.int (S 0 ((x3 + (1 : Int32))).toNatClampNeg)]) (rest := []) (dc := 6) oc_0_698 rfl rfl rfl oO_1 rfl rfl rfl rfl (by decide) (R112  hy134) ?_
      refine ev_aload_n od_0_701 rfl ?_
      refine ev_aload_n od_0_702 rfl ?_
      refine ev_iload_n od_0_703 rfl ?_
      refine ev_iconst (v := (1 : Int32)) od_0_704 (by decide) ?_
      refine ev_iadd od_0_705 ?_
      obtain ⟨bq135, h⟩ := ov_ck_ok h
      refine ev_scr od_0_706 (ov_ibk bq135) ?_
      obtain ⟨y136, hy136, h⟩ := ov_bd h
      try dsimp only at h
      refine ev_cvi (y := 207) (n := 1) (a := 42) (c := 8) (as := [.int (S 0 ((x3 + (1 : Int32))).toNatClampNeg)]) (rest := [.int y134]) (dc := 6) oc_0_707 rfl rfl rfl oO_42 rfl rfl rfl rfl (by decide) (R207  hy136) ?_
      refine ev_icmp_eq (t := 1111) od_0_710 (by decide) (fun hc137 => ?_) (fun hc137 => ?_)
      · rw [if_pos hc137] at h
        exact t0_1111_18  h hk
      · rw [if_neg hc137] at h
        refine ev_iconst (v := (0 : Int32)) od_0_713 (by decide) ?_
        cases h
        exact ev_zret od_0_714 rfl (by decide) hk
    rw [if_neg hc132] at h
    by_cases hc138 : ((S 0 (x3).toNatClampNeg) &&& (31 : Int32)) = (21 : Int32)
    · rw [if_pos hc138] at h
      refine ev_tsc (off := 683) (t := 715) hc138 od_0_32 (by decide) (by decide) ?_
      refine ev_aload_n od_0_715 rfl ?_
      refine ev_aload_n od_0_716 rfl ?_
      refine ev_iload_n od_0_717 rfl ?_
      refine ev_iconst (v := (1 : Int32)) od_0_718 (by decide) ?_
      refine ev_iadd od_0_719 ?_
      obtain ⟨bq139, h⟩ := ov_ck_ok h
      refine ev_scr od_0_720 (ov_ibk bq139) ?_
      refine ev_aload_n od_0_721 rfl ?_
      refine ev_iload_n od_0_722 rfl ?_
      refine ev_iconst (v := (2 : Int32)) od_0_723 (by decide) ?_
      refine ev_iadd od_0_724 ?_
      obtain ⟨bq140, h⟩ := ov_ck_ok h
      refine ev_scr od_0_725 (ov_ibk bq140) ?_
      refine ev_i2l od_0_726 ?_
      refine ev_bipush (v := (32 : Int32)) od_0_727 (by decide) ?_
      refine ev_lshl od_0_729 ?_
      refine ev_aload_n od_0_730 rfl ?_
      refine ev_iload_n od_0_731 rfl ?_
      refine ev_iconst (v := (3 : Int32)) od_0_732 (by decide) ?_
      refine ev_iadd od_0_733 ?_
      obtain ⟨bq141, h⟩ := ov_ck_ok h
      refine ev_scr od_0_734 (ov_ibk bq141) ?_
      refine ev_i2l od_0_735 ?_
      obtain ⟨w142, hw142⟩ := ok_0_736
      refine ev_ldc2_w od_0_736 hw142 ?_
      refine ev_land od_0_739 ?_
      refine ev_lor od_0_740 ?_
      obtain ⟨y143, hy143, h⟩ := ov_bd h
      try dsimp only at h
      refine ev_cvi (y := 114) (n := 2) (a := 1) (c := 0) (as := [.int (S 0 ((x3 + (1 : Int32))).toNatClampNeg), .long ((((S 0 ((x3 + (2 : Int32))).toNatClampNeg)).toInt64 <<< (((32 : Int32)).toInt64 &&& 63)) ||| (((S 0 ((x3 + (3 : Int32))).toNatClampNeg)).toInt64 &&& (4294967295 : Int64)))]) (rest := []) (dc := 7) oc_0_741 rfl rfl rfl oO_1 rfl rfl rfl rfl (by decide) (R114  hy143) ?_
      refine ev_aload_n od_0_744 rfl ?_
      refine ev_aload_n od_0_745 rfl ?_
      refine ev_iload_n od_0_746 rfl ?_
      refine ev_iconst (v := (1 : Int32)) od_0_747 (by decide) ?_
      refine ev_iadd od_0_748 ?_
      obtain ⟨bq144, h⟩ := ov_ck_ok h
      refine ev_scr od_0_749 (ov_ibk bq144) ?_
      refine ev_aload_n od_0_750 rfl ?_
      refine ev_iload_n od_0_751 rfl ?_
      refine ev_iconst (v := (2 : Int32)) od_0_752 (by decide) ?_
      refine ev_iadd od_0_753 ?_
      obtain ⟨bq145, h⟩ := ov_ck_ok h
      refine ev_scr od_0_754 (ov_ibk bq145) ?_
      refine ev_i2l od_0_755 ?_
      refine ev_bipush (v := (32 : Int32)) od_0_756 (by decide) ?_
      refine ev_lshl od_0_758 ?_
      refine ev_aload_n od_0_759 rfl ?_
      refine ev_iload_n od_0_760 rfl ?_
      refine ev_iconst (v := (3 : Int32)) od_0_761 (by decide) ?_
      refine ev_iadd od_0_762 ?_
      obtain ⟨bq146, h⟩ := ov_ck_ok h
      refine ev_scr od_0_763 (ov_ibk bq146) ?_
      refine ev_i2l od_0_764 ?_
      obtain ⟨w147, hw147⟩ := ok_0_765
      refine ev_ldc2_w od_0_765 hw147 ?_
      refine ev_land od_0_768 ?_
      refine ev_lor od_0_769 ?_
      obtain ⟨y148, hy148, h⟩ := ov_bd h
      try dsimp only at h
      refine ev_cvi (y := 208) (n := 2) (a := 42) (c := 8) (as := [.int (y143.2 0 ((x3 + (1 : Int32))).toNatClampNeg), .long ((((y143.2 0 ((x3 + (2 : Int32))).toNatClampNeg)).toInt64 <<< (((32 : Int32)).toInt64 &&& 63)) ||| (((y143.2 0 ((x3 + (3 : Int32))).toNatClampNeg)).toInt64 &&& (4294967295 : Int64)))]) (rest := [.int y143.1]) (dc := 6) oc_0_770 rfl rfl rfl oO_42 rfl rfl rfl rfl (by decide) (R208  hy148) ?_
      refine ev_icmp_eq (t := 1111) od_0_773 (by decide) (fun hc149 => ?_) (fun hc149 => ?_)
      · rw [if_pos hc149] at h
        exact t0_1111_18  h hk
      · rw [if_neg hc149] at h
        refine ev_iconst (v := (0 : Int32)) od_0_776 (by decide) ?_
        cases h
        exact ev_zret od_0_777 rfl (by decide) hk
    rw [if_neg hc138] at h
    by_cases hc150 : ((S 0 (x3).toNatClampNeg) &&& (31 : Int32)) = (22 : Int32)
    · rw [if_pos hc150] at h
      refine ev_tsc (off := 746) (t := 778) hc150 od_0_32 (by decide) (by decide) ?_
      refine ev_aload_n od_0_778 rfl ?_
      refine ev_aload_n od_0_779 rfl ?_
      refine ev_iload_n od_0_780 rfl ?_
      refine ev_iconst (v := (1 : Int32)) od_0_781 (by decide) ?_
      refine ev_iadd od_0_782 ?_
      obtain ⟨bq151, h⟩ := ov_ck_ok h
      refine ev_scr od_0_783 (ov_ibk bq151) ?_
      refine ev_aload_n od_0_784 rfl ?_
      refine ev_iload_n od_0_785 rfl ?_
      refine ev_iconst (v := (2 : Int32)) od_0_786 (by decide) ?_
      refine ev_iadd od_0_787 ?_
      obtain ⟨bq152, h⟩ := ov_ck_ok h
      refine ev_scr od_0_788 (ov_ibk bq152) ?_
      refine ev_if_eq (t := 796) od_0_789 (by decide) (fun hc159 => ?_) (fun hc159 => ?_)
      · rw [if_pos hc159] at h
        refine ev_iconst (v := (0 : Int32)) od_0_796 (by decide) ?_
        exact t0_797_18  h hk
      · rw [if_neg hc159] at h
        refine ev_iconst (v := (1 : Int32)) od_0_792 (by decide) ?_
        refine ev_goto (t := 797) od_0_793 (by decide) ?_
        exact t0_797_18  h hk
    rw [if_neg hc150] at h
    by_cases hc160 : ((S 0 (x3).toNatClampNeg) &&& (31 : Int32)) = (23 : Int32)
    · rw [if_pos hc160] at h
      refine ev_tsc (off := 795) (t := 827) hc160 od_0_32 (by decide) (by decide) ?_
      refine ev_aload_n od_0_827 rfl ?_
      refine ev_aload_n od_0_828 rfl ?_
      refine ev_iload_n od_0_829 rfl ?_
      refine ev_iconst (v := (1 : Int32)) od_0_830 (by decide) ?_
      refine ev_iadd od_0_831 ?_
      obtain ⟨bq161, h⟩ := ov_ck_ok h
      refine ev_scr od_0_832 (ov_ibk bq161) ?_
      refine ev_aload_n od_0_833 rfl ?_
      refine ev_iload_n od_0_834 rfl ?_
      refine ev_iconst (v := (2 : Int32)) od_0_835 (by decide) ?_
      refine ev_iadd od_0_836 ?_
      obtain ⟨bq162, h⟩ := ov_ck_ok h
      refine ev_scr od_0_837 (ov_ibk bq162) ?_
      obtain ⟨y163, hy163, h⟩ := ov_bd h
      try dsimp only at h
      refine ev_cvi (y := 123) (n := 2) (a := 1) (c := 0) (as := [.int (S 0 ((x3 + (1 : Int32))).toNatClampNeg), .int (S 0 ((x3 + (2 : Int32))).toNatClampNeg)]) (rest := []) (dc := 2) oc_0_838 rfl rfl rfl oO_1 rfl rfl rfl rfl (by decide) (R123  hy163) ?_
      refine ev_aload_n od_0_841 rfl ?_
      refine ev_aload_n od_0_842 rfl ?_
      refine ev_iload_n od_0_843 rfl ?_
      refine ev_iconst (v := (1 : Int32)) od_0_844 (by decide) ?_
      refine ev_iadd od_0_845 ?_
      obtain ⟨bq164, h⟩ := ov_ck_ok h
      refine ev_scr od_0_846 (ov_ibk bq164) ?_
      refine ev_aload_n od_0_847 rfl ?_
      refine ev_iload_n od_0_848 rfl ?_
      refine ev_iconst (v := (2 : Int32)) od_0_849 (by decide) ?_
      refine ev_iadd od_0_850 ?_
      obtain ⟨bq165, h⟩ := ov_ck_ok h
      refine ev_scr od_0_851 (ov_ibk bq165) ?_
      obtain ⟨y166, hy166, h⟩ := ov_bd h
      try dsimp only at h
      refine ev_cvi (y := 215) (n := 2) (a := 42) (c := 8) (as := [.int (y163.2 0 ((x3 + (1 : Int32))).toNatClampNeg), .int (y163.2 0 ((x3 + (2 : Int32))).toNatClampNeg)]) (rest := [.int y163.1]) (dc := 3) oc_0_852 rfl rfl rfl oO_42 rfl rfl rfl rfl (by decide) (R215  hy166) ?_
      refine ev_icmp_eq (t := 1111) od_0_855 (by decide) (fun hc167 => ?_) (fun hc167 => ?_)
      · rw [if_pos hc167] at h
        exact t0_1111_18  h hk
      · rw [if_neg hc167] at h
        refine ev_iconst (v := (0 : Int32)) od_0_858 (by decide) ?_
        cases h
        exact ev_zret od_0_859 rfl (by decide) hk
    rw [if_neg hc160] at h
    by_cases hc168 : ((S 0 (x3).toNatClampNeg) &&& (31 : Int32)) = (24 : Int32)
    · rw [if_pos hc168] at h
      refine ev_tsc (off := 828) (t := 860) hc168 od_0_32 (by decide) (by decide) ?_
      refine ev_aload_n od_0_860 rfl ?_
      obtain ⟨y169, hy169, h⟩ := ov_bd h
      try dsimp only at h
      refine ev_cvi (y := 125) (n := 0) (a := 1) (c := 0) (as := []) (rest := []) (dc := 2) oc_0_861 rfl rfl rfl oO_1 rfl rfl rfl rfl (by decide) (R125  hy169) ?_
      refine ev_aload_n od_0_864 rfl ?_
      obtain ⟨y170, hy170, h⟩ := ov_bd h
      try dsimp only at h
      refine ev_cvi (y := 216) (n := 0) (a := 42) (c := 8) (as := []) (rest := [.int y169.1]) (dc := 1) oc_0_865 rfl rfl rfl oO_42 rfl rfl rfl rfl (by decide) (R216  hy170) ?_
      refine ev_icmp_eq (t := 1111) od_0_868 (by decide) (fun hc171 => ?_) (fun hc171 => ?_)
      · rw [if_pos hc171] at h
        exact t0_1111_18  h hk
      · rw [if_neg hc171] at h
        refine ev_iconst (v := (0 : Int32)) od_0_871 (by decide) ?_
        cases h
        exact ev_zret od_0_872 rfl (by decide) hk
    rw [if_neg hc168] at h
    by_cases hc172 : ((S 0 (x3).toNatClampNeg) &&& (31 : Int32)) = (25 : Int32)
    · rw [if_pos hc172] at h
      refine ev_tsc (off := 841) (t := 873) hc172 od_0_32 (by decide) (by decide) ?_
      refine ev_aload_n od_0_873 rfl ?_
      obtain ⟨y173, hy173, h⟩ := ov_bd h
      try dsimp only at h
      refine ev_cvi (y := 127) (n := 0) (a := 1) (c := 0) (as := []) (rest := []) (dc := 4) oc_0_874 rfl rfl rfl oO_1 rfl rfl rfl rfl (by decide) (R127  hy173) ?_
      refine ev_aload_n od_0_877 rfl ?_
      obtain ⟨y174, hy174, h⟩ := ov_bd h
      try dsimp only at h
      refine ev_cvi (y := 217) (n := 0) (a := 42) (c := 8) (as := []) (rest := [.int y173]) (dc := 3) oc_0_878 rfl rfl rfl oO_42 rfl rfl rfl rfl (by decide) (R217  hy174) ?_
      refine ev_icmp_eq (t := 1111) od_0_881 (by decide) (fun hc175 => ?_) (fun hc175 => ?_)
      · rw [if_pos hc175] at h
        exact t0_1111_18  h hk
      · rw [if_neg hc175] at h
        refine ev_iconst (v := (0 : Int32)) od_0_884 (by decide) ?_
        cases h
        exact ev_zret od_0_885 rfl (by decide) hk
    rw [if_neg hc172] at h
    by_cases hc176 : ((S 0 (x3).toNatClampNeg) &&& (31 : Int32)) = (26 : Int32)
    · rw [if_pos hc176] at h
      refine ev_tsc (off := 854) (t := 886) hc176 od_0_32 (by decide) (by decide) ?_
      refine ev_aload_n od_0_886 rfl ?_
      refine ev_aload_n od_0_887 rfl ?_
      refine ev_iload_n od_0_888 rfl ?_
      refine ev_iconst (v := (1 : Int32)) od_0_889 (by decide) ?_
      refine ev_iadd od_0_890 ?_
      obtain ⟨bq177, h⟩ := ov_ck_ok h
      refine ev_scr od_0_891 (ov_ibk bq177) ?_
      refine ev_aload_n od_0_892 rfl ?_
      refine ev_iload_n od_0_893 rfl ?_
      refine ev_iconst (v := (2 : Int32)) od_0_894 (by decide) ?_
      refine ev_iadd od_0_895 ?_
      obtain ⟨bq178, h⟩ := ov_ck_ok h
      refine ev_scr od_0_896 (ov_ibk bq178) ?_
      refine ev_aload_n od_0_897 rfl ?_
      refine ev_iload_n od_0_898 rfl ?_
      refine ev_iconst (v := (3 : Int32)) od_0_899 (by decide) ?_
      refine ev_iadd od_0_900 ?_
      obtain ⟨bq179, h⟩ := ov_ck_ok h
      refine ev_scr od_0_901 (ov_ibk bq179) ?_
      obtain ⟨y180, hy180, h⟩ := ov_bd h
      try dsimp only at h
      refine ev_cvi (y := 129) (n := 3) (a := 1) (c := 0) (as := [.int (S 0 ((x3 + (1 : Int32))).toNatClampNeg), .int (S 0 ((x3 + (2 : Int32))).toNatClampNeg), .int (S 0 ((x3 + (3 : Int32))).toNatClampNeg)]) (rest := []) (dc := 8) oc_0_902 rfl rfl rfl oO_1 rfl rfl rfl rfl (by decide) (R129  hy180) ?_
      refine ev_aload_n od_0_905 rfl ?_
      refine ev_aload_n od_0_906 rfl ?_
      refine ev_iload_n od_0_907 rfl ?_
      refine ev_iconst (v := (1 : Int32)) od_0_908 (by decide) ?_
      refine ev_iadd od_0_909 ?_
      obtain ⟨bq181, h⟩ := ov_ck_ok h
      refine ev_scr od_0_910 (ov_ibk bq181) ?_
      refine ev_aload_n od_0_911 rfl ?_
      refine ev_iload_n od_0_912 rfl ?_
      refine ev_iconst (v := (2 : Int32)) od_0_913 (by decide) ?_
      refine ev_iadd od_0_914 ?_
      obtain ⟨bq182, h⟩ := ov_ck_ok h
      refine ev_scr od_0_915 (ov_ibk bq182) ?_
      refine ev_aload_n od_0_916 rfl ?_
      refine ev_iload_n od_0_917 rfl ?_
      refine ev_iconst (v := (3 : Int32)) od_0_918 (by decide) ?_
      refine ev_iadd od_0_919 ?_
      obtain ⟨bq183, h⟩ := ov_ck_ok h
      refine ev_scr od_0_920 (ov_ibk bq183) ?_
      obtain ⟨y184, hy184, h⟩ := ov_bd h
      try dsimp only at h
      refine ev_cvi (y := 218) (n := 3) (a := 42) (c := 8) (as := [.int (y180.2 0 ((x3 + (1 : Int32))).toNatClampNeg), .int (y180.2 0 ((x3 + (2 : Int32))).toNatClampNeg), .int (y180.2 0 ((x3 + (3 : Int32))).toNatClampNeg)]) (rest := [.int y180.1]) (dc := 7) oc_0_921 rfl rfl rfl oO_42 rfl rfl rfl rfl (by decide) (R218  hy184) ?_
      refine ev_icmp_eq (t := 1111) od_0_924 (by decide) (fun hc185 => ?_) (fun hc185 => ?_)
      · rw [if_pos hc185] at h
        exact t0_1111_18  h hk
      · rw [if_neg hc185] at h
        refine ev_iconst (v := (0 : Int32)) od_0_927 (by decide) ?_
        cases h
        exact ev_zret od_0_928 rfl (by decide) hk
    rw [if_neg hc176] at h
    by_cases hc186 : ((S 0 (x3).toNatClampNeg) &&& (31 : Int32)) = (27 : Int32)
    · rw [if_pos hc186] at h
      refine ev_tsc (off := 897) (t := 929) hc186 od_0_32 (by decide) (by decide) ?_
      refine ev_aload_n od_0_929 rfl ?_
      refine ev_aload_n od_0_930 rfl ?_
      refine ev_iload_n od_0_931 rfl ?_
      refine ev_iconst (v := (1 : Int32)) od_0_932 (by decide) ?_
      refine ev_iadd od_0_933 ?_
      obtain ⟨bq187, h⟩ := ov_ck_ok h
      refine ev_scr od_0_934 (ov_ibk bq187) ?_
      refine ev_aload_n od_0_935 rfl ?_
      refine ev_iload_n od_0_936 rfl ?_
      refine ev_iconst (v := (2 : Int32)) od_0_937 (by decide) ?_
      refine ev_iadd od_0_938 ?_
      obtain ⟨bq188, h⟩ := ov_ck_ok h
      refine ev_scr od_0_939 (ov_ibk bq188) ?_
      refine ev_aload_n od_0_940 rfl ?_
      refine ev_iload_n od_0_941 rfl ?_
      refine ev_iconst (v := (3 : Int32)) od_0_942 (by decide) ?_
      refine ev_iadd od_0_943 ?_
      obtain ⟨bq189, h⟩ := ov_ck_ok h
      refine ev_scr od_0_944 (ov_ibk bq189) ?_
      refine ev_if_eq (t := 952) od_0_945 (by decide) (fun hc197 => ?_) (fun hc197 => ?_)
      · rw [if_pos hc197] at h
        refine ev_iconst (v := (0 : Int32)) od_0_952 (by decide) ?_
        exact t0_953_18  h hk
      · rw [if_neg hc197] at h
        refine ev_iconst (v := (1 : Int32)) od_0_948 (by decide) ?_
        refine ev_goto (t := 953) od_0_949 (by decide) ?_
        exact t0_953_18  h hk
    rw [if_neg hc186] at h
    by_cases hc198 : ((S 0 (x3).toNatClampNeg) &&& (31 : Int32)) = (28 : Int32)
    · rw [if_pos hc198] at h
      refine ev_tsc (off := 956) (t := 988) hc198 od_0_32 (by decide) (by decide) ?_
      refine ev_aload_n od_0_988 rfl ?_
      refine ev_aload_n od_0_989 rfl ?_
      refine ev_iload_n od_0_990 rfl ?_
      refine ev_iconst (v := (1 : Int32)) od_0_991 (by decide) ?_
      refine ev_iadd od_0_992 ?_
      obtain ⟨bq199, h⟩ := ov_ck_ok h
      refine ev_scr od_0_993 (ov_ibk bq199) ?_
      refine ev_i2l od_0_994 ?_
      refine ev_bipush (v := (32 : Int32)) od_0_995 (by decide) ?_
      refine ev_lshl od_0_997 ?_
      refine ev_aload_n od_0_998 rfl ?_
      refine ev_iload_n od_0_999 rfl ?_
      refine ev_iconst (v := (2 : Int32)) od_0_1000 (by decide) ?_
      refine ev_iadd od_0_1001 ?_
      obtain ⟨bq200, h⟩ := ov_ck_ok h
      refine ev_scr od_0_1002 (ov_ibk bq200) ?_
      refine ev_i2l od_0_1003 ?_
      obtain ⟨w201, hw201⟩ := ok_0_1004
      refine ev_ldc2_w od_0_1004 hw201 ?_
      refine ev_land od_0_1007 ?_
      refine ev_lor od_0_1008 ?_
      obtain ⟨y202, hy202, h⟩ := ov_bd h
      try dsimp only at h
      refine ev_cvl (y := 138) (n := 1) (a := 1) (c := 0) (as := [.long ((((S 0 ((x3 + (1 : Int32))).toNatClampNeg)).toInt64 <<< (((32 : Int32)).toInt64 &&& 63)) ||| (((S 0 ((x3 + (2 : Int32))).toNatClampNeg)).toInt64 &&& (4294967295 : Int64)))]) (rest := []) (dc := 1) oc_0_1009 rfl rfl rfl oO_1 rfl rfl rfl rfl (by decide) (R138  hy202) ?_
      refine ev_aload_n od_0_1012 rfl ?_
      refine ev_aload_n od_0_1013 rfl ?_
      refine ev_iload_n od_0_1014 rfl ?_
      refine ev_iconst (v := (1 : Int32)) od_0_1015 (by decide) ?_
      refine ev_iadd od_0_1016 ?_
      obtain ⟨bq203, h⟩ := ov_ck_ok h
      refine ev_scr od_0_1017 (ov_ibk bq203) ?_
      refine ev_i2l od_0_1018 ?_
      refine ev_bipush (v := (32 : Int32)) od_0_1019 (by decide) ?_
      refine ev_lshl od_0_1021 ?_
      refine ev_aload_n od_0_1022 rfl ?_
      refine ev_iload_n od_0_1023 rfl ?_
      refine ev_iconst (v := (2 : Int32)) od_0_1024 (by decide) ?_
      refine ev_iadd od_0_1025 ?_
      obtain ⟨bq204, h⟩ := ov_ck_ok h
      refine ev_scr od_0_1026 (ov_ibk bq204) ?_
      refine ev_i2l od_0_1027 ?_
      obtain ⟨w205, hw205⟩ := ok_0_1028
      refine ev_ldc2_w od_0_1028 hw205 ?_
      refine ev_land od_0_1031 ?_
      refine ev_lor od_0_1032 ?_
      obtain ⟨y206, hy206, h⟩ := ov_bd h
      try dsimp only at h
      refine ev_cvl (y := 222) (n := 1) (a := 42) (c := 8) (as := [.long ((((y202.2.1 0 ((x3 + (1 : Int32))).toNatClampNeg)).toInt64 <<< (((32 : Int32)).toInt64 &&& 63)) ||| (((y202.2.1 0 ((x3 + (2 : Int32))).toNatClampNeg)).toInt64 &&& (4294967295 : Int64)))]) (rest := [.long y202.1]) (dc := 1) oc_0_1033 rfl rfl rfl oO_42 rfl rfl rfl rfl (by decide) (R222  hy206) ?_
      refine ev_lcmp od_0_1036 ?_
      refine ev_if_eq (t := 1111) od_0_1037 (by decide) (fun hc207 => ?_) (fun hc207 => ?_)
      · rw [if_pos hc207] at h
        exact t0_1111_18  h hk
      · rw [if_neg hc207] at h
        refine ev_iconst (v := (0 : Int32)) od_0_1040 (by decide) ?_
        cases h
        exact ev_zret od_0_1041 rfl (by decide) hk
    rw [if_neg hc198] at h
    by_cases hc208 : ((S 0 (x3).toNatClampNeg) &&& (31 : Int32)) = (29 : Int32)
    · rw [if_pos hc208] at h
      refine ev_tsc (off := 1010) (t := 1042) hc208 od_0_32 (by decide) (by decide) ?_
      refine ev_aload_n od_0_1042 rfl ?_
      refine ev_aload_n od_0_1043 rfl ?_
      refine ev_iload_n od_0_1044 rfl ?_
      refine ev_iconst (v := (1 : Int32)) od_0_1045 (by decide) ?_
      refine ev_iadd od_0_1046 ?_
      obtain ⟨bq209, h⟩ := ov_ck_ok h
      refine ev_scr od_0_1047 (ov_ibk bq209) ?_
      obtain ⟨y210, hy210, h⟩ := ov_bd h
      try dsimp only at h
      refine ev_cvi (y := 139) (n := 1) (a := 1) (c := 0) (as := [.int (S 0 ((x3 + (1 : Int32))).toNatClampNeg)]) (rest := []) (dc := 6) oc_0_1048 rfl rfl rfl oO_1 rfl rfl rfl rfl (by decide) (R139  hy210) ?_
      refine ev_aload_n od_0_1051 rfl ?_
      refine ev_aload_n od_0_1052 rfl ?_
      refine ev_iload_n od_0_1053 rfl ?_
      refine ev_iconst (v := (1 : Int32)) od_0_1054 (by decide) ?_
      refine ev_iadd od_0_1055 ?_
      obtain ⟨bq211, h⟩ := ov_ck_ok h
      refine ev_scr od_0_1056 (ov_ibk bq211) ?_
      obtain ⟨y212, hy212, h⟩ := ov_bd h
      try dsimp only at h
      refine ev_cvi (y := 223) (n := 1) (a := 42) (c := 8) (as := [.int (y210.2.1 0 ((x3 + (1 : Int32))).toNatClampNeg)]) (rest := [.int y210.1]) (dc := 6) oc_0_1057 rfl rfl rfl oO_42 rfl rfl rfl rfl (by decide) (R223  hy212) ?_
      refine ev_icmp_eq (t := 1111) od_0_1060 (by decide) (fun hc213 => ?_) (fun hc213 => ?_)
      · rw [if_pos hc213] at h
        exact t0_1111_18  h hk
      · rw [if_neg hc213] at h
        refine ev_iconst (v := (0 : Int32)) od_0_1063 (by decide) ?_
        cases h
        exact ev_zret od_0_1064 rfl (by decide) hk
    rw [if_neg hc208] at h
    by_cases hc214 : ((S 0 (x3).toNatClampNeg) &&& (31 : Int32)) = (30 : Int32)
    · rw [if_pos hc214] at h
      refine ev_tsc (off := 1033) (t := 1065) hc214 od_0_32 (by decide) (by decide) ?_
      refine ev_aload_n od_0_1065 rfl ?_
      refine ev_aload_n od_0_1066 rfl ?_
      refine ev_iload_n od_0_1067 rfl ?_
      refine ev_iconst (v := (1 : Int32)) od_0_1068 (by decide) ?_
      refine ev_iadd od_0_1069 ?_
      obtain ⟨bq215, h⟩ := ov_ck_ok h
      refine ev_scr od_0_1070 (ov_ibk bq215) ?_
      obtain ⟨y216, hy216, h⟩ := ov_bd h
      try dsimp only at h
      refine ev_cvi (y := 140) (n := 1) (a := 1) (c := 0) (as := [.int (S 0 ((x3 + (1 : Int32))).toNatClampNeg)]) (rest := []) (dc := 2) oc_0_1071 rfl rfl rfl oO_1 rfl rfl rfl rfl (by decide) (R140  hy216) ?_
      refine ev_aload_n od_0_1074 rfl ?_
      refine ev_aload_n od_0_1075 rfl ?_
      refine ev_iload_n od_0_1076 rfl ?_
      refine ev_iconst (v := (1 : Int32)) od_0_1077 (by decide) ?_
      refine ev_iadd od_0_1078 ?_
      obtain ⟨bq217, h⟩ := ov_ck_ok h
      refine ev_scr od_0_1079 (ov_ibk bq217) ?_
      obtain ⟨y218, hy218, h⟩ := ov_bd h
      try dsimp only at h
      refine ev_cvi (y := 224) (n := 1) (a := 42) (c := 8) (as := [.int (y216.2 0 ((x3 + (1 : Int32))).toNatClampNeg)]) (rest := [.int y216.1]) (dc := 2) oc_0_1080 rfl rfl rfl oO_42 rfl rfl rfl rfl (by decide) (R224  hy218) ?_
      refine ev_icmp_eq (t := 1111) od_0_1083 (by decide) (fun hc219 => ?_) (fun hc219 => ?_)
      · rw [if_pos hc219] at h
        exact t0_1111_18  h hk
      · rw [if_neg hc219] at h
        refine ev_iconst (v := (0 : Int32)) od_0_1086 (by decide) ?_
        cases h
        exact ev_zret od_0_1087 rfl (by decide) hk
    rw [if_neg hc214] at h
    by_cases hc220 : ((S 0 (x3).toNatClampNeg) &&& (31 : Int32)) = (31 : Int32)
    · rw [if_pos hc220] at h
      refine ev_tsc (off := 1056) (t := 1088) hc220 od_0_32 (by decide) (by decide) ?_
      refine ev_aload_n od_0_1088 rfl ?_
      refine ev_aload_n od_0_1089 rfl ?_
      refine ev_iload_n od_0_1090 rfl ?_
      refine ev_iconst (v := (1 : Int32)) od_0_1091 (by decide) ?_
      refine ev_iadd od_0_1092 ?_
      obtain ⟨bq221, h⟩ := ov_ck_ok h
      refine ev_scr od_0_1093 (ov_ibk bq221) ?_
      obtain ⟨y222, hy222, h⟩ := ov_bd h
      try dsimp only at h
      refine ev_cvi (y := 141) (n := 1) (a := 1) (c := 0) (as := [.int (S 0 ((x3 + (1 : Int32))).toNatClampNeg)]) (rest := []) (dc := 2) oc_0_1094 rfl rfl rfl oO_1 rfl rfl rfl rfl (by decide) (R141  hy222) ?_
      refine ev_aload_n od_0_1097 rfl ?_
      refine ev_aload_n od_0_1098 rfl ?_
      refine ev_iload_n od_0_1099 rfl ?_
      refine ev_iconst (v := (1 : Int32)) od_0_1100 (by decide) ?_
      refine ev_iadd od_0_1101 ?_
      obtain ⟨bq223, h⟩ := ov_ck_ok h
      refine ev_scr od_0_1102 (ov_ibk bq223) ?_
      obtain ⟨y224, hy224, h⟩ := ov_bd h
      try dsimp only at h
      refine ev_cvi (y := 225) (n := 1) (a := 42) (c := 8) (as := [.int (y222.2 0 ((x3 + (1 : Int32))).toNatClampNeg)]) (rest := [.int y222.1]) (dc := 2) oc_0_1103 rfl rfl rfl oO_42 rfl rfl rfl rfl (by decide) (R225  hy224) ?_
      refine ev_icmp_eq (t := 1111) od_0_1106 (by decide) (fun hc225 => ?_) (fun hc225 => ?_)
      · rw [if_pos hc225] at h
        exact t0_1111_18  h hk
      · rw [if_neg hc225] at h
        refine ev_iconst (v := (0 : Int32)) od_0_1109 (by decide) ?_
        cases h
        exact ev_zret od_0_1110 rfl (by decide) hk
    rw [if_neg hc220] at h
    have ehc2 := ov_ni hc2
    have ehc8 := ov_ni hc8
    have ehc12 := ov_ni hc12
    have ehc16 := ov_ni hc16
    have ehc20 := ov_ni hc20
    have ehc26 := ov_ni hc26
    have ehc32 := ov_ni hc32
    have ehc38 := ov_ni hc38
    have ehc46 := ov_ni hc46
    have ehc54 := ov_ni hc54
    have ehc60 := ov_ni hc60
    have ehc68 := ov_ni hc68
    have ehc76 := ov_ni hc76
    have ehc82 := ov_ni hc82
    have ehc90 := ov_ni hc90
    have ehc94 := ov_ni hc94
    have ehc102 := ov_ni hc102
    have ehc110 := ov_ni hc110
    have ehc118 := ov_ni hc118
    have ehc126 := ov_ni hc126
    have ehc132 := ov_ni hc132
    have ehc138 := ov_ni hc138
    have ehc150 := ov_ni hc150
    have ehc160 := ov_ni hc160
    have ehc168 := ov_ni hc168
    have ehc172 := ov_ni hc172
    have ehc176 := ov_ni hc176
    have ehc186 := ov_ni hc186
    have ehc198 := ov_ni hc198
    have ehc208 := ov_ni hc208
    have ehc214 := ov_ni hc214
    have ehc220 := ov_ni hc220
    have hout : (((S 0 (x3).toNatClampNeg) &&& (31 : Int32))).toInt < 0 ∨ 31 < (((S 0 (x3).toNatClampNeg) &&& (31 : Int32))).toInt := by
      rw [show ((0 : Int32)).toInt = 0 from by decide] at ehc2
      rw [show ((1 : Int32)).toInt = 1 from by decide] at ehc8
      rw [show ((2 : Int32)).toInt = 2 from by decide] at ehc12
      rw [show ((3 : Int32)).toInt = 3 from by decide] at ehc16
      rw [show ((4 : Int32)).toInt = 4 from by decide] at ehc20
      rw [show ((5 : Int32)).toInt = 5 from by decide] at ehc26
      rw [show ((6 : Int32)).toInt = 6 from by decide] at ehc32
      rw [show ((7 : Int32)).toInt = 7 from by decide] at ehc38
      rw [show ((8 : Int32)).toInt = 8 from by decide] at ehc46
      rw [show ((9 : Int32)).toInt = 9 from by decide] at ehc54
      rw [show ((10 : Int32)).toInt = 10 from by decide] at ehc60
      rw [show ((11 : Int32)).toInt = 11 from by decide] at ehc68
      rw [show ((12 : Int32)).toInt = 12 from by decide] at ehc76
      rw [show ((13 : Int32)).toInt = 13 from by decide] at ehc82
      rw [show ((14 : Int32)).toInt = 14 from by decide] at ehc90
      rw [show ((15 : Int32)).toInt = 15 from by decide] at ehc94
      rw [show ((16 : Int32)).toInt = 16 from by decide] at ehc102
      rw [show ((17 : Int32)).toInt = 17 from by decide] at ehc110
      rw [show ((18 : Int32)).toInt = 18 from by decide] at ehc118
      rw [show ((19 : Int32)).toInt = 19 from by decide] at ehc126
      rw [show ((20 : Int32)).toInt = 20 from by decide] at ehc132
      rw [show ((21 : Int32)).toInt = 21 from by decide] at ehc138
      rw [show ((22 : Int32)).toInt = 22 from by decide] at ehc150
      rw [show ((23 : Int32)).toInt = 23 from by decide] at ehc160
      rw [show ((24 : Int32)).toInt = 24 from by decide] at ehc168
      rw [show ((25 : Int32)).toInt = 25 from by decide] at ehc172
      rw [show ((26 : Int32)).toInt = 26 from by decide] at ehc176
      rw [show ((27 : Int32)).toInt = 27 from by decide] at ehc186
      rw [show ((28 : Int32)).toInt = 28 from by decide] at ehc198
      rw [show ((29 : Int32)).toInt = 29 from by decide] at ehc208
      rw [show ((30 : Int32)).toInt = 30 from by decide] at ehc214
      rw [show ((31 : Int32)).toInt = 31 from by decide] at ehc220
      omega
    refine ev_tsd (t := 1111) hout od_0_32 (by decide) ?_
    exact t0_1111_18  h hk
def f0 (L : Nat) (S : ov_S) (G : ov_L2) (x3 : Int32) : Option (Int32 × ov_S × ov_L2) :=
  ((ov_lp (fun s => b0_18 L s.1 s.2.1 s.2.2) 2000 (x3, S, G)).bind fun e227 => match e227 with | .inl e228 => some ((1 : Int32), e228.1, e228.2) | .inr t => some t)
theorem t0 {L : Nat} {S : ov_S} {G : ov_L2} {x3 : Int32} {P : Option Value → ov_S → ov_L2 → Prop}  {out : Int32 × ov_S × ov_L2} (h : f0 L S G x3 = some out) (hP : P (some (.int out.1)) out.2.1 out.2.2) : ov_J L 15 0 18 [some (.ref 0), some (.ref 1), some (.ref 42), some (.int x3)] [] S G P := by
  unfold f0 at h
  obtain ⟨e227, he227, h⟩ := ov_bd h
  try dsimp only at h
  refine ov_lp_S (body := (fun s => b0_18 L s.1 s.2.1 s.2.2)) (head := (fun s => ov_J L 15 0 18 [some (.ref 0), some (.ref 1), some (.ref 42), some (.int s.1)] [] s.2.1 s.2.2 P)) (exit := (ov_sm (fun e => ov_J L 15 0 1117 [none, none, none, none] [] e.1 e.2 P) (fun t => P (some (.int t.1)) t.2.1 t.2.2))) (fun s r hb hk => bt0_18  hb hk) 2000 (x3, S, G) e227 he227 ?_
  rcases e227 with e228 | t
  · try dsimp only at h
    show ov_J L 15 0 1117 [none, none, none, none] [] e228.1 e228.2 P
    refine ev_iconst (v := (1 : Int32)) od_0_1117 (by decide) ?_
    cases h
    exact ev_zret od_0_1118 rfl (by decide) hP
  · cases h
    exact hP
