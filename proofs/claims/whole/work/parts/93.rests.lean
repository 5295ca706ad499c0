-- CALLS: rests
/-- one comes by a door: in how many steps, and the page then -/
def cst (P : pl_T) (g : pg_g) (k d : Nat) : Int32 × pg_g := if (frm g (pN P) (pF P)).testBit (dr P d) = true then (cmd P g k (dr P d), pu g k (cmb P g k (dr P d)).1) else (-9, g)
def wth (x : Int32) (s : Bool) : Int32 := if x = -9 then 0 else if s then 9 - x else 1
def rg1 (P : pl_T) (g : pg_g) (k o a b : Nat) : Int32 := wth (cst P g k a).1 (seen P (cst P (cst P g k a).2 o b).2 k)
def rg2 (P : pl_T) (g : pg_g) (k o a b : Nat) : Int32 := wth (cst P (cst P g k a).2 o b).1 (seen P (cst P (cst P g k a).2 o b).2 o)
/-- no better door among the first n -/
def rsn (g1 g2 : Nat → Nat → Int32) (a b : Nat) : Nat → Bool
  | 0 => true
  | n + 1 => rsn g1 g2 a b n && (decide (g1 n b ≤ g1 a b) && decide (g2 a n ≤ g2 a b))
def rcr (g1 g2 : Nat → Nat → Int32) (D a : Nat) : Nat → Nat × Int32 → Nat × Int32
  | 0, o => o
  | b + 1, o => if rsn g1 g2 a b D then ((rcr g1 g2 D a b o).1 + 1, if (rcr g1 g2 D a b o).1 = 0 then (10 : Int32) * nI a + nI b else (rcr g1 g2 D a b o).2) else rcr g1 g2 D a b o
def rct (g1 g2 : Nat → Nat → Int32) (D : Nat) : Nat → Nat × Int32
  | 0 => (0, -9)
  | a + 1 => rcr g1 g2 D a D (rct g1 g2 D a)
theorem rcr_le {g1 g2 : Nat → Nat → Int32} {D a : Nat} {o : Nat × Int32} : ∀ b, (rcr g1 g2 D a b o).1 ≤ o.1 + b
  | 0 => Nat.le_refl _
  | b + 1 => by
    have := rcr_le (g1 := g1) (g2 := g2) (D := D) (a := a) (o := o) b
    unfold rcr
    split
    · show (rcr g1 g2 D a b o).1 + 1 ≤ _
      omega
    · omega
theorem rct_le {g1 g2 : Nat → Nat → Int32} {D : Nat} (hD : D ≤ 3) : ∀ a, (rct g1 g2 D a).1 ≤ 3 * a
  | 0 => Nat.le_refl _
  | a + 1 => by
    have h1 := rct_le (g1 := g1) (g2 := g2) hD a
    have h2 := rcr_le (g1 := g1) (g2 := g2) (D := D) (a := a) (o := rct g1 g2 D a) D
    show (rcr g1 g2 D a D (rct g1 g2 D a)).1 ≤ _
    omega
theorem rsn_dn {g1 g2 : Nat → Nat → Int32} {a b n k : Nat} (h : k ≤ n) (t : rsn g1 g2 a b k = false) : rsn g1 g2 a b n = false := by
  induction n with
  | zero =>
    have : k = 0 := by omega
    rw [this] at t
    exact t
  | succ n ih =>
    by_cases q : k = n + 1
    · rw [← q]
      exact t
    · unfold rsn
      rw [ih (by omega), Bool.false_and]
theorem s132 (x : Int32) (s : Bool) : f132 x (if s then 1 else 0) = some (wth x s) := by
  unfold f132 wth
  by_cases h : x = -9
  · rw [if_pos h, if_pos h]
  · rw [if_neg h, if_neg h]
    cases s <;> rfl
section
variable {S : ov_S} {G : ov_L2} {P : pl_T} {a : Nat} {g : pg_g} {p : Nat}
theorem cst_y {k d : Nat} (t : (frm g (pN P) (pF P)).testBit (dr P d) = true) : (cst P g k d).1 = cmd P g k (dr P d) ∧ (cst P g k d).2 = pu g k (cmb P g k (dr P d)).1 := by
  have e : cst P g k d = (cmd P g k (dr P d), pu g k (cmb P g k (dr P d)).1) := if_pos t
  constructor
  · rw [e]
  · rw [e]
theorem cst_n {k d : Nat} (t : ¬ (frm g (pN P) (pF P)).testBit (dr P d) = true) : (cst P g k d).1 = -9 ∧ (cst P g k d).2 = g := by
  have e : cst P g k d = (-9, g) := if_neg t
  constructor
  · rw [e]
  · rw [e]
theorem cst_v (hv : pg_V g (pN P) (pF P)) (R : pl_R S P) {k d : Nat} (hk : k < pN P) (hd : d < pD P) : pg_V (cst P g k d).2 (pN P) (pF P) := by
  by_cases t : (frm g (pN P) (pF P)).testBit (dr P d) = true
  · rw [(cst_y (k := k) t).2]
    exact V_cm hv (r_N6 R) hk (r_dr R hd).2 t
  · rw [(cst_n (k := k) t).2]
    exact hv
theorem cst_o {k d o : Nat} (h : o ≠ k) : (cst P g k d).2 o = g o := by
  by_cases t : (frm g (pN P) (pF P)).testBit (dr P d) = true
  · rw [(cst_y (k := k) t).2]
    exact pu_ne h
  · rw [(cst_n (k := k) t).2]
theorem c101 (R : pl_R S P) (hv : pg_V g (pN P) (pF P)) (he : pg_E S 21 g (pF P)) {k d : Nat} (hk : k < pN P) (hd : d < pD P) : ∃ T, f101 21 S (nI k) (nI d) = some ((cst P g k d).1, T) ∧ ag [22] S T ∧ pg_E T 21 (cst P g k d).2 (pF P) := by
  have h6 := r_N6 R
  by_cases t : (frm g (pN P) (pF P)).testBit (dr P d) = true
  · obtain ⟨e1, e2⟩ := cst_y (k := k) t
    refine ⟨ov_up S (21 + 1) k (cmb P g k (dr P d)).1, ?_, ag_up (by decide), ?_⟩
    · rw [s101 R hv he hk hd, if_pos t, e1]
    · rw [e2]
      exact E_pu (by omega) he
  · obtain ⟨e1, e2⟩ := cst_n (k := k) t
    refine ⟨S, ?_, ag_rf, ?_⟩
    · rw [s101 R hv he hk hd, if_neg t, e1]
    · rw [e2]
      exact he
theorem c201 (R : pl_R S P) (hv : pg_V g (pN P) (pF P)) (hm : pg_M S 56 g) {k d : Nat} (hk : k < pN P) (hd : d < pD P) (h9 : g k = -9) : ∃ T, f201 S (nI k) (nI d) = some ((cst P g k d).1, T) ∧ ag [56, 63] S T ∧ pg_M T 56 (cst P g k d).2 := by
  by_cases t : (frm g (pN P) (pF P)).testBit (dr P d) = true
  · obtain ⟨e1, e2⟩ := cst_y (k := k) t
    rw [e1, e2]
    exact s201 R hv hm hk hd h9 t
  · obtain ⟨e1, e2⟩ := cst_n (k := k) t
    rw [e1, e2]
    exact ⟨S, s201n R hv hm hk hd (by simpa using t), ag_rf, hm⟩
theorem snm_tb {k : Nat} (hk : k < pN P) : (snm P g).testBit k = seen P g k := by
  unfold snm
  rw [tb_mk, decide_eq_true hk, Bool.true_and]
theorem snm_lt (R : pl_R S P) : snm P g < 2 ^ 6 := Nat.lt_of_lt_of_le (mk_lt _ _) (Nat.pow_le_pow_right (n := 2) (by omega) (r_N6 R))
theorem s220 (R : pl_R S P) (hv : pg_V g (pN P) (pF P)) (hm : pg_M S 56 g) {k : Nat} (hk : k < pN P) (x : Int32) : f220 S (nI k) x = some (wth x (seen P g k)) := by
  unfold f220 wth
  by_cases h : x = -9
  · rw [if_pos h, if_pos h]
  · rw [if_neg h, if_neg h, s162 R hv hm hk, Option.bind_some]
    cases seen P g k <;> rfl
/-- one pair of doors, the program's -/
theorem s131 (h : in_P S G P) {k o a b : Nat} (hk : k < pN P) (ho : o < pN P) (ha : a < pD P) (hb : b < pD P) : ∃ T, f131 S (nI k) (nI o) (nI a) (nI b) = some T ∧ sm_S S T ∧ T 33 = pu (S 33) (3 * a + b) (rg1 P (S 55) k o a b) ∧ T 34 = pu (S 34) (3 * a + b) (rg2 P (S 55) k o a b) := by
  have R := h.2.1
  have hv := h.2.2.1.1
  have h6 := r_N6 R
  have h3 := r_D3 R
  obtain ⟨S1, q1, q2, q3, q4, q5⟩ := tc_go h
  obtain ⟨T1, u1, u2, u3⟩ := c101 q4 hv q3 hk ha
  have R1 := r_ag q4 u2 (by decide)
  have V1 := cst_v hv R hk ha
  obtain ⟨T2, v1, v2, v3⟩ := c101 R1 V1 u3 ho hb
  have R2 := r_ag R1 v2 (by decide)
  have V2 := cst_v V1 R ho hb
  have sl := snm_lt (g := (cst P (cst P (S 55) k a).2 o b).2) R
  have a2 : ag [21, 22, 23] S T2 := ag_tr q2 (ag_tr (ag_mo u2 (by decide)) (ag_mo v2 (by decide)))
  refine ⟨ov_up (ov_up T2 33 (3 * a + b) (rg1 P (S 55) k o a b)) 34 (3 * a + b) (rg2 P (S 55) k o a b), ?_, ?_, ?_, ?_⟩
  · unfold f131
    rw [q1, Option.bind_some, u1, Option.bind_some]
    try dsimp only
    rw [v1, Option.bind_some]
    try dsimp only
    rw [s36 R2 V2 v3, Option.bind_some, s23 (by omega) (by omega), snm_tb hk, Option.bind_some, s132, Option.bind_some, show (3 : Int32) = nI 3 from rfl, pk_mul, nI_add, ov_ck_t (ib_nI (by omega) (by omega)), s23 (by omega) (by omega), snm_tb ho, Option.bind_some, s132, Option.bind_some, ov_ck_t (ib_nI (by omega) (by omega)), nI_clamp (by omega)]
    rfl
  · refine sm_tr (sm_ag a2 (fun i hi j => ?_)) (sm_tr (sm_up rfl) (sm_up rfl))
    simp only [List.mem_cons, List.not_mem_nil, or_false] at hi
    rcases hi with rfl | rfl | rfl <;> rfl
  · rw [up_n1 (by decide), up_pu, a2 33 (by decide)]
  · rw [up_pu, up_n1 (by decide), a2 34 (by decide)]
/-- one pair of doors, the reference's -/
theorem s219_13 (R : pl_R S P) (h55 : S 55 = g) (hv : pg_V g (pN P) (pF P)) {k o a b : Nat} (hk : k < pN P) (ho : o < pN P) (ne : o ≠ k) (k9 : g k = -9) (o9 : g o = -9) (ha : a < pD P) (hb : b < pD P) : ∃ T, b219_13 (nI k) (nI o) (nI a) (nI b) S = some (.inl (nI (b + 1), T)) ∧ sm_S S T ∧ T 65 = pu (pu (S 65) (2 * (3 * a + b)) (rg1 P g k o a b)) (2 * (3 * a + b) + 1) (rg2 P g k o a b) := by
  have h6 := r_N6 R
  have h3 := r_D3 R
  obtain ⟨T0, q1, q2, q3, q4, q5⟩ := mc_go R h55
  obtain ⟨T1, u1, u2, u3⟩ := c201 q4 hv q3 hk ha k9
  have R1 := r_ag q4 u2 (by decide)
  have V1 := cst_v hv R hk ha
  obtain ⟨T2, v1, v2, v3⟩ := c201 R1 V1 u3 ho hb (by rw [cst_o ne, o9])
  have R2 := r_ag R1 v2 (by decide)
  have V2 := cst_v V1 R ho hb
  have a2 : ag [56, 63] S T2 := ag_tr (ag_mo q2 (by decide)) (ag_tr u2 v2)
  refine ⟨ov_up (ov_up T2 65 (2 * (3 * a + b)) (rg1 P g k o a b)) 65 (2 * (3 * a + b) + 1) (rg2 P g k o a b), ?_, sm_tr (sm_ag a2 sc_l) (sm_tr (sm_up rfl) (sm_up rfl)), ?_⟩
  · unfold b219_13
    rw [r_mD R, if_neg (nle_nI hb (by omega)), q1, Option.bind_some, u1, Option.bind_some]
    try dsimp only
    rw [v1, Option.bind_some]
    try dsimp only
    rw [s220 R2 V2 v3 hk, Option.bind_some, show (3 : Int32) = nI 3 from rfl, show (2 : Int32) = nI 2 from rfl, pk_mul, nI_add, pk_mul, ov_ck_t (ib_nI (by omega) (by omega)), nI_clamp (by omega), s220 (r_ag R2 (ag_up (l := [65]) (by decide)) (by decide)) V2 (M_n v3 (up_n1 (by decide))) ho, Option.bind_some, nI_1, ov_ck_t (ib_nI (by omega) (by omega)), nI_clamp (by omega), nI_1]
    rfl
  · rw [up_pu, up_pu, a2 65 (by decide)]
/-- all pairs, the program's -/
def fil1 (g1 g2 : Nat → Nat → Int32) (D : Nat) (T : ov_S) : Prop := ∀ a b, a < D → b < D → T 33 (3 * a + b) = g1 a b ∧ T 34 (3 * a + b) = g2 a b
def fil2 (g1 g2 : Nat → Nat → Int32) (D : Nat) (T : ov_S) : Prop := ∀ a b, a < D → b < D → T 65 (2 * (3 * a + b)) = g1 a b ∧ T 65 (2 * (3 * a + b) + 1) = g2 a b
theorem look1 (h : in_P S G P) {k o : Nat} (hk : k < pN P) (ho : o < pN P) : ∃ T, ov_lp (fun s => b130_11 (nI k) (nI o) (S 4 0) s.1 s.2) 2000 ((0 : Int32), S) = some T ∧ (sm_S S T ∧ fil1 (rg1 P (S 55) k o) (rg2 P (S 55) k o) (pD P) T) := by
  have R := h.2.1
  have h3 := r_D3 R
  rw [r_cD R]
  refine lp_inv (fun (a : Nat) (s : Int32 × ov_S) => s.1 = nI a ∧ sm_S S s.2 ∧ ∀ a' b', a' < a → b' < pD P → s.2 33 (3 * a' + b') = rg1 P (S 55) k o a' b' ∧ s.2 34 (3 * a' + b') = rg2 P (S 55) k o a' b') (fun (T : ov_S) => sm_S S T ∧ fil1 (rg1 P (S 55) k o) (rg2 P (S 55) k o) (pD P) T) (pD P) ?_ ?_ 0 _ (by omega) ⟨rfl, sm_rf, fun a' b' q => absurd q (Nat.not_lt_zero _)⟩ (by omega)
  · rintro a ⟨x4, T⟩ ha ⟨rfl, w2, w3⟩
    replace w2 : sm_S S T := w2
    replace w3 : ∀ a' b', a' < a → b' < pD P → T 33 (3 * a' + b') = rg1 P (S 55) k o a' b' ∧ T 34 (3 * a' + b') = rg2 P (S 55) k o a' b' := w3
    have L : ∃ T', ov_lp (fun s => b130_20 (nI k) (nI o) (nI (pD P)) (nI a) s.1 s.2) 2000 ((0 : Int32), T) = some T' ∧ (sm_S S T' ∧ ∀ a' b', a' < a + 1 → b' < pD P → T' 33 (3 * a' + b') = rg1 P (S 55) k o a' b' ∧ T' 34 (3 * a' + b') = rg2 P (S 55) k o a' b') := by
      refine lp_inv (fun (b : Nat) (s : Int32 × ov_S) => s.1 = nI b ∧ sm_S S s.2 ∧ ∀ a' b', b' < pD P → (a' < a ∨ (a' = a ∧ b' < b)) → s.2 33 (3 * a' + b') = rg1 P (S 55) k o a' b' ∧ s.2 34 (3 * a' + b') = rg2 P (S 55) k o a' b') (fun (T' : ov_S) => sm_S S T' ∧ ∀ a' b', a' < a + 1 → b' < pD P → T' 33 (3 * a' + b') = rg1 P (S 55) k o a' b' ∧ T' 34 (3 * a' + b') = rg2 P (S 55) k o a' b') (pD P) ?_ ?_ 0 _ (by omega) ⟨rfl, w2, fun a' b' hb' q => w3 a' b' (q.resolve_right (fun z => absurd z.2 (Nat.not_lt_zero _))) hb'⟩ (by omega)
      · rintro b ⟨x5, U⟩ hb ⟨rfl, y2, y3⟩
        replace y2 : sm_S S U := y2
        replace y3 : ∀ a' b', b' < pD P → (a' < a ∨ (a' = a ∧ b' < b)) → U 33 (3 * a' + b') = rg1 P (S 55) k o a' b' ∧ U 34 (3 * a' + b') = rg2 P (S 55) k o a' b' := y3
        have e55 : U 55 = S 55 := funext fun j => y2 55 j rfl
        obtain ⟨U', t1, t2, t3, t4⟩ := s131 (in_sm y2 h) hk ho ha hb
        rw [e55] at t3 t4
        refine ⟨(nI b + 1, U'), ?_, nI_1 b, sm_tr y2 t2, fun a' b' hb' q => ?_⟩
        · show b130_20 (nI k) (nI o) (nI (pD P)) (nI a) (nI b) U = _
          unfold b130_20
          rw [if_neg (nle_nI hb (by omega)), t1]
          rfl
        · show U' 33 (3 * a' + b') = _ ∧ U' 34 (3 * a' + b') = _
          rw [t3, t4]
          by_cases e : a' = a ∧ b' = b
          · rw [e.1, e.2, pu_eq, pu_eq]
            exact ⟨rfl, rfl⟩
          · rw [pu_ne (by omega), pu_ne (by omega)]
            exact y3 a' b' hb' (by omega)
      · rintro ⟨x5, U⟩ ⟨rfl, y2, y3⟩
        refine ⟨U, ?_, y2, fun a' b' h1 h2 => y3 a' b' h2 (by omega)⟩
        show b130_20 _ _ (nI (pD P)) _ (nI (pD P)) U = _
        unfold b130_20
        rw [if_pos (le_nI (Nat.le_refl _) (by omega))]
    obtain ⟨T', l1, l2, l3⟩ := L
    refine ⟨(nI a + 1, T'), ?_, nI_1 a, l2, l3⟩
    show b130_11 (nI k) (nI o) (nI (pD P)) (nI a) T = _
    unfold b130_11
    rw [if_neg (nle_nI ha (by omega)), l1]
    rfl
  · rintro ⟨x4, T⟩ ⟨rfl, w2, w3⟩
    refine ⟨T, ?_, w2, w3⟩
    show b130_11 _ _ (nI (pD P)) (nI (pD P)) T = _
    unfold b130_11
    rw [if_pos (le_nI (Nat.le_refl _) (by omega))]
theorem look2 (R : pl_R S P) (h55 : S 55 = g) (hv : pg_V g (pN P) (pF P)) {k o : Nat} (hk : k < pN P) (ho : o < pN P) (ne : o ≠ k) (k9 : g k = -9) (o9 : g o = -9) : ∃ T, ov_lp (fun s => b219_2 (nI k) (nI o) s.1 s.2) 2000 ((0 : Int32), S) = some T ∧ (sm_S S T ∧ fil2 (rg1 P g k o) (rg2 P g k o) (pD P) T) := by
  have h3 := r_D3 R
  refine lp_inv (fun (a : Nat) (s : Int32 × ov_S) => s.1 = nI a ∧ sm_S S s.2 ∧ ∀ a' b', a' < a → b' < pD P → s.2 65 (2 * (3 * a' + b')) = rg1 P g k o a' b' ∧ s.2 65 (2 * (3 * a' + b') + 1) = rg2 P g k o a' b') (fun (T : ov_S) => sm_S S T ∧ fil2 (rg1 P g k o) (rg2 P g k o) (pD P) T) (pD P) ?_ ?_ 0 _ (by omega) ⟨rfl, sm_rf, fun a' b' q => absurd q (Nat.not_lt_zero _)⟩ (by omega)
  · rintro a ⟨x4, T⟩ ha ⟨rfl, w2, w3⟩
    replace w2 : sm_S S T := w2
    replace w3 : ∀ a' b', a' < a → b' < pD P → T 65 (2 * (3 * a' + b')) = rg1 P g k o a' b' ∧ T 65 (2 * (3 * a' + b') + 1) = rg2 P g k o a' b' := w3
    have L : ∃ T', ov_lp (fun s => b219_13 (nI k) (nI o) (nI a) s.1 s.2) 2000 ((0 : Int32), T) = some T' ∧ (sm_S S T' ∧ ∀ a' b', a' < a + 1 → b' < pD P → T' 65 (2 * (3 * a' + b')) = rg1 P g k o a' b' ∧ T' 65 (2 * (3 * a' + b') + 1) = rg2 P g k o a' b') := by
      refine lp_inv (fun (b : Nat) (s : Int32 × ov_S) => s.1 = nI b ∧ sm_S S s.2 ∧ ∀ a' b', b' < pD P → (a' < a ∨ (a' = a ∧ b' < b)) → s.2 65 (2 * (3 * a' + b')) = rg1 P g k o a' b' ∧ s.2 65 (2 * (3 * a' + b') + 1) = rg2 P g k o a' b') (fun (T' : ov_S) => sm_S S T' ∧ ∀ a' b', a' < a + 1 → b' < pD P → T' 65 (2 * (3 * a' + b')) = rg1 P g k o a' b' ∧ T' 65 (2 * (3 * a' + b') + 1) = rg2 P g k o a' b') (pD P) ?_ ?_ 0 _ (by omega) ⟨rfl, w2, fun a' b' hb' q => w3 a' b' (q.resolve_right (fun z => absurd z.2 (Nat.not_lt_zero _))) hb'⟩ (by omega)
      · rintro b ⟨x5, U⟩ hb ⟨rfl, y2, y3⟩
        replace y2 : sm_S S U := y2
        replace y3 : ∀ a' b', b' < pD P → (a' < a ∨ (a' = a ∧ b' < b)) → U 65 (2 * (3 * a' + b')) = rg1 P g k o a' b' ∧ U 65 (2 * (3 * a' + b') + 1) = rg2 P g k o a' b' := y3
        have e55 : U 55 = g := (funext fun j => y2 55 j rfl).trans h55
        obtain ⟨U', t1, t2, t3⟩ := s219_13 (r_sm R y2) e55 hv hk ho ne k9 o9 ha hb
        refine ⟨(nI (b + 1), U'), t1, rfl, sm_tr y2 t2, fun a' b' hb' q => ?_⟩
        show U' 65 (2 * (3 * a' + b')) = _ ∧ U' 65 (2 * (3 * a' + b') + 1) = _
        rw [t3]
        by_cases e : a' = a ∧ b' = b
        · rw [e.1, e.2, pu_eq, pu_ne (by omega), pu_eq]
          exact ⟨rfl, rfl⟩
        · rw [pu_ne (by omega), pu_ne (by omega), pu_ne (by omega), pu_ne (by omega)]
          exact y3 a' b' hb' (by omega)
      · rintro ⟨x5, U⟩ ⟨rfl, y2, y3⟩
        replace y2 : sm_S S U := y2
        refine ⟨U, ?_, y2, fun a' b' h1 h2 => y3 a' b' h2 (by omega)⟩
        show b219_13 _ _ _ (nI (pD P)) U = _
        unfold b219_13
        rw [r_mD (r_sm R y2), if_pos (le_nI (Nat.le_refl _) (by omega))]
    obtain ⟨T', l1, l2, l3⟩ := L
    refine ⟨(nI a + 1, T'), ?_, nI_1 a, l2, l3⟩
    show b219_2 (nI k) (nI o) (nI a) T = _
    unfold b219_2
    rw [r_mD (r_sm R w2), if_neg (nle_nI ha (by omega)), l1]
    rfl
  · rintro ⟨x4, T⟩ ⟨rfl, w2, w3⟩
    replace w2 : sm_S S T := w2
    refine ⟨T, ?_, w2, w3⟩
    show b219_2 _ _ (nI (pD P)) T = _
    unfold b219_2
    rw [r_mD (r_sm R w2), if_pos (le_nI (Nat.le_refl _) (by omega))]
theorem s133 (R : pl_R S P) {g1 g2 : Nat → Nat → Int32} (hf : fil1 g1 g2 (pD P) S) {a b : Nat} (ha : a < pD P) (hb : b < pD P) : f133 S (nI a) (nI b) = some (if rsn g1 g2 a b (pD P) then 1 else 0) := by
  have h3 := r_D3 R
  have L : ∃ e, ov_lp (fun s => b133_9 S (nI a) (nI b) (nI (3 * a + b)) s) 2000 (0 : Int32) = some e ∧ ((e = .inl () ∧ rsn g1 g2 a b (pD P) = true) ∨ (e = .inr 0 ∧ rsn g1 g2 a b (pD P) = false)) := by
    refine lp_inv2 (fun (n : Nat) (s : Int32) => s = nI n ∧ rsn g1 g2 a b n = true) (fun (e : Unit ⊕ Int32) => (e = .inl () ∧ rsn g1 g2 a b (pD P) = true) ∨ (e = .inr 0 ∧ rsn g1 g2 a b (pD P) = false)) (pD P) ?_ ?_ 0 _ (by omega) ⟨rfl, rfl⟩ (by omega)
    · rintro n s hn ⟨rfl, w⟩
      show (∃ s', b133_9 S (nI a) (nI b) (nI (3 * a + b)) (nI n) = some (.inl s') ∧ _) ∨ ∃ e, b133_9 S (nI a) (nI b) (nI (3 * a + b)) (nI n) = some (.inr e) ∧ _
      have un : rsn g1 g2 a b (n + 1) = (rsn g1 g2 a b n && (decide (g1 n b ≤ g1 a b) && decide (g2 a n ≤ g2 a b))) := rfl
      rw [w, Bool.true_and] at un
      have no : rsn g1 g2 a b (n + 1) = false → rsn g1 g2 a b (pD P) = false := fun q => rsn_dn (by omega) q
      unfold b133_9 f133_46_9 f133_73_9
      rw [r_cD R, if_neg (nle_nI hn (by omega)), show (3 : Int32) = nI 3 from rfl, pk_mul, nI_add, pk_mul, nI_add, ov_ck_t (ib_nI (by omega) (by omega)), ov_ck_t (ib_nI (by omega) (by omega)), nI_clamp (by omega), nI_clamp (by omega), (hf n b hn hb).1, (hf a b ha hb).1]
      by_cases q1 : g1 n b ≤ g1 a b
      · rw [if_pos q1, ov_ck_t (ib_nI (by omega) (by omega)), ov_ck_t (ib_nI (by omega) (by omega)), nI_clamp (by omega), (hf a n ha hn).2, (hf a b ha hb).2]
        rw [decide_eq_true q1, Bool.true_and] at un
        by_cases q2 : g2 a n ≤ g2 a b
        · rw [if_pos q2]
          rw [decide_eq_true q2] at un
          exact .inl ⟨_, rfl, nI_1 n, un⟩
        · rw [if_neg q2]
          rw [decide_eq_false q2] at un
          exact .inr ⟨_, rfl, .inr ⟨rfl, no un⟩⟩
      · rw [if_neg q1, ov_ck_t (ib_nI (by omega) (by omega)), ov_ck_t (ib_nI (by omega) (by omega)), nI_clamp (by omega), (hf a n ha hn).2, (hf a b ha hb).2]
        rw [decide_eq_false q1, Bool.false_and] at un
        by_cases q2 : g2 a n ≤ g2 a b
        · rw [if_pos q2]
          exact .inr ⟨_, rfl, .inr ⟨rfl, no un⟩⟩
        · rw [if_neg q2]
          exact .inr ⟨_, rfl, .inr ⟨rfl, no un⟩⟩
    · rintro s ⟨rfl, w⟩
      refine ⟨.inl (), ?_, .inl ⟨rfl, w⟩⟩
      show b133_9 _ _ _ _ (nI (pD P)) = _
      unfold b133_9
      rw [r_cD R, if_pos (le_nI (Nat.le_refl _) (by omega))]
  obtain ⟨e, e1, e2⟩ := L
  unfold f133
  rw [show (3 : Int32) = nI 3 from rfl, pk_mul, nI_add, e1, Option.bind_some]
  rcases e2 with ⟨rfl, w⟩ | ⟨rfl, w⟩
  · rw [w]
    rfl
  · rw [w]
    rfl
theorem s219_145 (R : pl_R S P) {g1 g2 : Nat → Nat → Int32} (hf : fil2 g1 g2 (pD P) S) {a b : Nat} (ha : a < pD P) (hb : b < pD P) : ov_lp (fun s => b219_145 S (nI a) (nI b) s.1 s.2) 2000 ((1 : Int32), (0 : Int32)) = some (if rsn g1 g2 a b (pD P) then 1 else 0) := by
  have h3 := r_D3 R
  refine lp_for (fun n => ((if rsn g1 g2 a b n then (1 : Int32) else 0), nI n)) (pD P) rfl (fun n hn => ?_) ?_ (by omega)
  · show b219_145 S (nI a) (nI b) (if rsn g1 g2 a b n then (1 : Int32) else 0) (nI n) = some (.inl ((if rsn g1 g2 a b (n + 1) then (1 : Int32) else 0), nI (n + 1)))
    have un : rsn g1 g2 a b (n + 1) = (rsn g1 g2 a b n && (decide (g1 n b ≤ g1 a b) && decide (g2 a n ≤ g2 a b))) := rfl
    unfold b219_145 f219_226_145 f219_227_145
    rw [r_mD R, if_neg (nle_nI hn (by omega)), nI_1, un]
    cases w : rsn g1 g2 a b n
    · rw [if_c0, Bool.false_and]
      rfl
    · rw [if_c1, Bool.true_and, show (3 : Int32) = nI 3 from rfl, show (2 : Int32) = nI 2 from rfl]
      rw [show nI 2 * (nI 3 * nI n + nI b) = nI (2 * (3 * n + b)) by rw [pk_mul, nI_add, pk_mul], show nI 2 * (nI 3 * nI a + nI b) = nI (2 * (3 * a + b)) by rw [pk_mul, nI_add, pk_mul], show nI 2 * (nI 3 * nI a + nI n) = nI (2 * (3 * a + n)) by rw [pk_mul, nI_add, pk_mul]]
      rw [nI_1, nI_1, ov_ck_t (ib_nI (by omega) (by omega)), ov_ck_t (ib_nI (by omega) (by omega)), ov_ck_t (ib_nI (by omega) (by omega)), ov_ck_t (ib_nI (by omega) (by omega)), nI_clamp (by omega), nI_clamp (by omega), nI_clamp (by omega), nI_clamp (by omega), (hf a b ha hb).1, (hf n b hn hb).1, (hf a b ha hb).2, (hf a n ha hn).2]
      by_cases q1 : g1 n b ≤ g1 a b
      · rw [if_neg (Int32.not_lt.mpr q1), decide_eq_true q1, Bool.true_and]
        by_cases q2 : g2 a n ≤ g2 a b
        · rw [if_neg (Int32.not_lt.mpr q2), decide_eq_true q2]
          rfl
        · rw [if_pos (Int32.not_le.mp q2), decide_eq_false q2]
          rfl
      · rw [if_pos (Int32.not_le.mp q1), decide_eq_false q1]
        rfl
  · show b219_145 S _ _ _ (nI (pD P)) = _
    unfold b219_145
    rw [r_mD R, if_pos (le_nI (Nat.le_refl _) (by omega))]
theorem fil1_up {g1 g2 : Nat → Nat → Int32} {D : Nat} {T T' : ov_S} (h : fil1 g1 g2 D T) (e1 : T' 33 = T 33) (e2 : T' 34 = T 34) : fil1 g1 g2 D T' := fun a b ha hb => by
  rw [e1, e2]
  exact h a b ha hb
theorem fil2_up {g1 g2 : Nat → Nat → Int32} {D : Nat} {T T' : ov_S} (h : fil2 g1 g2 D T) (e1 : T' 65 = T 65) : fil2 g1 g2 D T' := fun a b ha hb => by
  rw [e1]
  exact h a b ha hb
theorem count1 (R : pl_R S P) {g1 g2 : Nat → Nat → Int32} (hf : fil1 g1 g2 (pD P) S) (e5 : S 32 5 = 0) (e6 : S 32 6 = -9) : ∃ T, ov_lp (fun s => b130_62 (nI (pD P)) s.1 s.2) 2000 ((0 : Int32), S) = some T ∧ (sm_S S T ∧ T 32 5 = nI (rct g1 g2 (pD P) (pD P)).1 ∧ T 32 6 = (rct g1 g2 (pD P) (pD P)).2) := by
  have h3 := r_D3 R
  have main : ∃ T, ov_lp (fun s => b130_62 (nI (pD P)) s.1 s.2) 2000 ((0 : Int32), S) = some T ∧ (sm_S S T ∧ fil1 g1 g2 (pD P) T ∧ T 32 5 = nI (rct g1 g2 (pD P) (pD P)).1 ∧ T 32 6 = (rct g1 g2 (pD P) (pD P)).2) := by
    refine lp_inv (fun (a : Nat) (s : Int32 × ov_S) => s.1 = nI a ∧ sm_S S s.2 ∧ fil1 g1 g2 (pD P) s.2 ∧ s.2 32 5 = nI (rct g1 g2 (pD P) a).1 ∧ s.2 32 6 = (rct g1 g2 (pD P) a).2) (fun (T : ov_S) => sm_S S T ∧ fil1 g1 g2 (pD P) T ∧ T 32 5 = nI (rct g1 g2 (pD P) (pD P)).1 ∧ T 32 6 = (rct g1 g2 (pD P) (pD P)).2) (pD P) ?_ ?_ 0 _ (by omega) ⟨rfl, sm_rf, hf, e5, e6⟩ (by omega)
    · rintro a ⟨x4, T⟩ ha ⟨rfl, w2, w3, w4, w5⟩
      replace w2 : sm_S S T := w2
      replace w3 : fil1 g1 g2 (pD P) T := w3
      have l1 := rct_le (g1 := g1) (g2 := g2) h3 a
      have L : ∃ T', ov_lp (fun s => b130_71 (nI (pD P)) (nI a) s.1 s.2) 2000 ((0 : Int32), T) = some T' ∧ (sm_S S T' ∧ fil1 g1 g2 (pD P) T' ∧ T' 32 5 = nI (rct g1 g2 (pD P) (a + 1)).1 ∧ T' 32 6 = (rct g1 g2 (pD P) (a + 1)).2) := by
        refine lp_inv (fun (b : Nat) (s : Int32 × ov_S) => s.1 = nI b ∧ sm_S S s.2 ∧ fil1 g1 g2 (pD P) s.2 ∧ s.2 32 5 = nI (rcr g1 g2 (pD P) a b (rct g1 g2 (pD P) a)).1 ∧ s.2 32 6 = (rcr g1 g2 (pD P) a b (rct g1 g2 (pD P) a)).2) (fun (T' : ov_S) => sm_S S T' ∧ fil1 g1 g2 (pD P) T' ∧ T' 32 5 = nI (rct g1 g2 (pD P) (a + 1)).1 ∧ T' 32 6 = (rct g1 g2 (pD P) (a + 1)).2) (pD P) ?_ ?_ 0 _ (by omega) ⟨rfl, w2, w3, w4, w5⟩ (by omega)
        · rintro b ⟨x5, U⟩ hb ⟨rfl, y2, y3, y4, y5⟩
          replace y2 : sm_S S U := y2
          replace y3 : fil1 g1 g2 (pD P) U := y3
          replace y4 : U 32 5 = _ := y4
          replace y5 : U 32 6 = _ := y5
          have l2 := rcr_le (g1 := g1) (g2 := g2) (D := pD P) (a := a) (o := rct g1 g2 (pD P) a) b
          have un : rcr g1 g2 (pD P) a (b + 1) (rct g1 g2 (pD P) a) = (if rsn g1 g2 a b (pD P) then ((rcr g1 g2 (pD P) a b (rct g1 g2 (pD P) a)).1 + 1, if (rcr g1 g2 (pD P) a b (rct g1 g2 (pD P) a)).1 = 0 then (10 : Int32) * nI a + nI b else (rcr g1 g2 (pD P) a b (rct g1 g2 (pD P) a)).2) else rcr g1 g2 (pD P) a b (rct g1 g2 (pD P) a)) := rfl
          show ∃ s', b130_71 (nI (pD P)) (nI a) (nI b) U = some (.inl s') ∧ _
          unfold b130_71 f130_111_71 f130_124_71
          rw [if_neg (nle_nI hb (by omega)), s133 (r_sm R y2) y3 ha hb, Option.bind_some, un]
          cases t : rsn g1 g2 a b (pD P)
          · rw [if_c0]
            exact ⟨_, rfl, nI_1 b, y2, y3, y4, y5⟩
          · rw [if_c1, if_pos rfl]
            have fin : ∀ x : Int32, sm_S S (ov_up (ov_up U 32 6 x) 32 5 ((ov_up U 32 6 x) 32 5 + 1)) ∧ fil1 g1 g2 (pD P) (ov_up (ov_up U 32 6 x) 32 5 ((ov_up U 32 6 x) 32 5 + 1)) ∧ (ov_up (ov_up U 32 6 x) 32 5 ((ov_up U 32 6 x) 32 5 + 1)) 32 5 = nI ((rcr g1 g2 (pD P) a b (rct g1 g2 (pD P) a)).1 + 1) ∧ (ov_up (ov_up U 32 6 x) 32 5 ((ov_up U 32 6 x) 32 5 + 1)) 32 6 = x := fun x => ⟨sm_tr y2 (sm_tr (sm_up rfl) (sm_up rfl)), fil1_up y3 (by rw [up_n1 (by decide), up_n1 (by decide)]) (by rw [up_n1 (by decide), up_n1 (by decide)]), by rw [up_eq, up_n2 (by decide), y4, nI_1], by rw [up_n2 (by decide), up_eq]⟩
            by_cases z : (rcr g1 g2 (pD P) a b (rct g1 g2 (pD P) a)).1 = 0
            · rw [if_pos (by rw [y4, z]; rfl), if_pos z]
              obtain ⟨p1, p2, p3, p4⟩ := fin ((10 : Int32) * nI a + nI b)
              exact ⟨_, rfl, nI_1 b, p1, p2, p3, p4⟩
            · rw [if_neg (by rw [y4]; exact fun q => z ((nI_z (by omega)).mp q)), if_neg z]
              obtain ⟨p1, p2, p3, p4⟩ := fin (U 32 6)
              exact ⟨_, rfl, nI_1 b, p1, p2, p3, p4.trans y5⟩
        · rintro ⟨x5, U⟩ ⟨rfl, y⟩
          refine ⟨U, ?_, y⟩
          show b130_71 (nI (pD P)) _ (nI (pD P)) U = _
          unfold b130_71
          rw [if_pos (le_nI (Nat.le_refl _) (by omega))]
      obtain ⟨T', t1, t2⟩ := L
      refine ⟨(nI a + 1, T'), ?_, nI_1 a, t2⟩
      show b130_62 (nI (pD P)) (nI a) T = _
      unfold b130_62
      rw [if_neg (nle_nI ha (by omega)), t1]
      rfl
    · rintro ⟨x4, T⟩ ⟨rfl, w⟩
      refine ⟨T, ?_, w⟩
      show b130_62 (nI (pD P)) (nI (pD P)) T = _
      unfold b130_62
      rw [if_pos (le_nI (Nat.le_refl _) (by omega))]
  obtain ⟨T, t1, t2, t3, t4⟩ := main
  exact ⟨T, t1, t2, t4⟩
theorem count2 (R : pl_R S P) {g1 g2 : Nat → Nat → Int32} (hf : fil2 g1 g2 (pD P) S) (e5 : S 42 39 = 0) (e6 : S 42 40 = -9) : ∃ T, ov_lp (fun s => b219_119 s.1 s.2) 2000 ((0 : Int32), S) = some T ∧ (sm_S S T ∧ T 42 39 = nI (rct g1 g2 (pD P) (pD P)).1 ∧ T 42 40 = (rct g1 g2 (pD P) (pD P)).2) := by
  have h3 := r_D3 R
  have main : ∃ T, ov_lp (fun s => b219_119 s.1 s.2) 2000 ((0 : Int32), S) = some T ∧ (sm_S S T ∧ fil2 g1 g2 (pD P) T ∧ T 42 39 = nI (rct g1 g2 (pD P) (pD P)).1 ∧ T 42 40 = (rct g1 g2 (pD P) (pD P)).2) := by
    refine lp_inv (fun (a : Nat) (s : Int32 × ov_S) => s.1 = nI a ∧ sm_S S s.2 ∧ fil2 g1 g2 (pD P) s.2 ∧ s.2 42 39 = nI (rct g1 g2 (pD P) a).1 ∧ s.2 42 40 = (rct g1 g2 (pD P) a).2) (fun (T : ov_S) => sm_S S T ∧ fil2 g1 g2 (pD P) T ∧ T 42 39 = nI (rct g1 g2 (pD P) (pD P)).1 ∧ T 42 40 = (rct g1 g2 (pD P) (pD P)).2) (pD P) ?_ ?_ 0 _ (by omega) ⟨rfl, sm_rf, hf, e5, e6⟩ (by omega)
    · rintro a ⟨x4, T⟩ ha ⟨rfl, w2, w3, w4, w5⟩
      replace w2 : sm_S S T := w2
      replace w3 : fil2 g1 g2 (pD P) T := w3
      have l1 := rct_le (g1 := g1) (g2 := g2) h3 a
      have L : ∃ T', ov_lp (fun s => b219_130 (nI a) s.1 s.2) 2000 ((0 : Int32), T) = some T' ∧ (sm_S S T' ∧ fil2 g1 g2 (pD P) T' ∧ T' 42 39 = nI (rct g1 g2 (pD P) (a + 1)).1 ∧ T' 42 40 = (rct g1 g2 (pD P) (a + 1)).2) := by
        refine lp_inv (fun (b : Nat) (s : Int32 × ov_S) => s.1 = nI b ∧ sm_S S s.2 ∧ fil2 g1 g2 (pD P) s.2 ∧ s.2 42 39 = nI (rcr g1 g2 (pD P) a b (rct g1 g2 (pD P) a)).1 ∧ s.2 42 40 = (rcr g1 g2 (pD P) a b (rct g1 g2 (pD P) a)).2) (fun (T' : ov_S) => sm_S S T' ∧ fil2 g1 g2 (pD P) T' ∧ T' 42 39 = nI (rct g1 g2 (pD P) (a + 1)).1 ∧ T' 42 40 = (rct g1 g2 (pD P) (a + 1)).2) (pD P) ?_ ?_ 0 _ (by omega) ⟨rfl, w2, w3, w4, w5⟩ (by omega)
        · rintro b ⟨x5, U⟩ hb ⟨rfl, y2, y3, y4, y5⟩
          replace y2 : sm_S S U := y2
          replace y3 : fil2 g1 g2 (pD P) U := y3
          replace y4 : U 42 39 = _ := y4
          replace y5 : U 42 40 = _ := y5
          have l2 := rcr_le (g1 := g1) (g2 := g2) (D := pD P) (a := a) (o := rct g1 g2 (pD P) a) b
          have un : rcr g1 g2 (pD P) a (b + 1) (rct g1 g2 (pD P) a) = (if rsn g1 g2 a b (pD P) then ((rcr g1 g2 (pD P) a b (rct g1 g2 (pD P) a)).1 + 1, if (rcr g1 g2 (pD P) a b (rct g1 g2 (pD P) a)).1 = 0 then (10 : Int32) * nI a + nI b else (rcr g1 g2 (pD P) a b (rct g1 g2 (pD P) a)).2) else rcr g1 g2 (pD P) a b (rct g1 g2 (pD P) a)) := rfl
          have fin : ∀ x z : Int32, sm_S S (ov_up (ov_up U 42 40 x) 42 39 ((ov_up U 42 40 x) 42 39 + z)) ∧ fil2 g1 g2 (pD P) (ov_up (ov_up U 42 40 x) 42 39 ((ov_up U 42 40 x) 42 39 + z)) ∧ (ov_up (ov_up U 42 40 x) 42 39 ((ov_up U 42 40 x) 42 39 + z)) 42 39 = nI (rcr g1 g2 (pD P) a b (rct g1 g2 (pD P) a)).1 + z ∧ (ov_up (ov_up U 42 40 x) 42 39 ((ov_up U 42 40 x) 42 39 + z)) 42 40 = x := fun x z => ⟨sm_tr y2 (sm_tr (sm_up rfl) (sm_up rfl)), fil2_up y3 (by rw [up_n1 (by decide), up_n1 (by decide)]), by rw [up_eq, up_n2 (by decide), y4], by rw [up_n2 (by decide), up_eq]⟩
          show ∃ s', b219_130 (nI a) (nI b) U = some (.inl s') ∧ _
          unfold b219_130 f219_258_130 f219_262_130 f219_280_130
          rw [r_mD (r_sm R y2), if_neg (nle_nI hb (by omega)), s219_145 (r_sm R y2) y3 ha hb, Option.bind_some, un]
          cases t : rsn g1 g2 a b (pD P)
          · rw [if_c0, if_c0]
            obtain ⟨p1, p2, p3, p4⟩ := fin (U 42 40) 0
            refine ⟨_, rfl, nI_1 b, p1, p2, p3.trans ?_, p4.trans y5⟩
            rw [show (0 : Int32) = nI 0 from rfl, nI_add]
            rfl
          · rw [if_c1, if_c1, if_c1, if_pos rfl]
            by_cases z : (rcr g1 g2 (pD P) a b (rct g1 g2 (pD P) a)).1 = 0
            · rw [if_pos (by rw [y4, z]; rfl), if_pos z]
              obtain ⟨p1, p2, p3, p4⟩ := fin ((10 : Int32) * nI a + nI b) 1
              exact ⟨_, rfl, nI_1 b, p1, p2, p3.trans (nI_1 _), p4⟩
            · rw [if_neg (by rw [y4]; exact fun q => z ((nI_z (by omega)).mp q)), if_neg z]
              obtain ⟨p1, p2, p3, p4⟩ := fin (U 42 40) 1
              exact ⟨_, rfl, nI_1 b, p1, p2, p3.trans (nI_1 _), p4.trans y5⟩
        · rintro ⟨x5, U⟩ ⟨rfl, y⟩
          refine ⟨U, ?_, y⟩
          show b219_130 _ (nI (pD P)) U = _
          unfold b219_130
          have RU : pl_R U P := r_sm R y.1
          rw [r_mD RU, if_pos (le_nI (Nat.le_refl _) (by omega))]
      obtain ⟨T', t1, t2⟩ := L
      refine ⟨(nI a + 1, T'), ?_, nI_1 a, t2⟩
      show b219_119 (nI a) T = _
      unfold b219_119
      rw [r_mD (r_sm R w2), if_neg (nle_nI ha (by omega)), t1]
      rfl
    · rintro ⟨x4, T⟩ ⟨rfl, w⟩
      refine ⟨T, ?_, w⟩
      show b219_119 (nI (pD P)) T = _
      unfold b219_119
      have RU : pl_R T P := r_sm R w.1
      rw [r_mD RU, if_pos (le_nI (Nat.le_refl _) (by omega))]
  obtain ⟨T, t1, t2, t3, t4⟩ := main
  exact ⟨T, t1, t2, t4⟩
theorem c_rests (h : in_P S G P) (x y z : Int32) : ok2 S G (f129 S x y z) (fun T => f218 T x y z) := by
  have R := h.2.1
  have RT := (in_t0 h).2.1
  have hv := h.2.2.1.1
  have he := h.2.2.1.2.1
  have h6 := r_N6 R
  have h3 := r_D3 R
  have out : (x < 0 ∨ nI (pN P) ≤ x) → ok2 S G (f129 S x y z) (fun T => f218 T x y z) := fun hx => by
    refine o2 h sm_rf sm0 (-1) ?_ ?_
    · unfold f129
      rw [s29n R hx]
      rfl
    · show f218 S x y z = _
      unfold f218
      rw [s175n RT hx]
      rfl
  rcases pk_ix x (n := pN P) (by omega) with hx | hx | ⟨k, hk, rfl⟩
  · exact out (.inl hx)
  · exact out (.inr hx)
  have out2 : (y < 0 ∨ nI (pN P) ≤ y) → ok2 S G (f129 S (nI k) y z) (fun T => f218 T (nI k) y z) := fun hy => by
    refine o2 h sm_rf sm0 (-1) ?_ ?_
    · unfold f129
      rw [s29 R hk, s29n R hy]
      rfl
    · show f218 S (nI k) y z = _
      unfold f218
      rw [s175 RT hk, s175n RT hy]
      rfl
  rcases pk_ix y (n := pN P) (by omega) with hy | hy | ⟨o, ho, rfl⟩
  · exact out2 (.inl hy)
  · exact out2 (.inr hy)
  by_cases eq : o = k
  · subst eq
    refine o2 h sm_rf sm0 (-2) ?_ ?_
    · unfold f129
      rw [s29 R hk, Option.bind_some, if_neg (by decide), Option.bind_some, if_neg (by decide), if_pos rfl]
    · show f218 S (nI o) (nI o) z = _
      unfold f218
      rw [s175 RT hk, Option.bind_some, if_pos rfl, Option.bind_some, if_pos rfl, if_pos rfl]
  have ne : ¬ nI k = nI o := nI_ne (fun q => eq q.symm) (by omega) (by omega)
  have out3 : (z < 0 ∨ nI 2 ≤ z) → ok2 S G (f129 S (nI k) (nI o) z) (fun T => f218 T (nI k) (nI o) z) := fun hz => by
    refine o2 h sm_rf sm0 (-2) ?_ ?_
    · unfold f129
      rw [s29 R hk, Option.bind_some, if_neg (by decide), s29 R ho, Option.bind_some, if_neg (by decide), if_neg ne]
      by_cases h0 : z < 0
      · rw [if_pos h0]
      · have h1 := hz.resolve_left h0
        have : ¬ z ≤ (1 : Int32) := fun q => by
          have a := Int32.le_iff_toInt_le.mp h1
          have b := Int32.le_iff_toInt_le.mp q
          rw [nI_toInt (by omega)] at a
          rw [show (1 : Int32) = nI 1 from rfl, nI_toInt (by omega)] at b
          omega
        rw [if_neg h0, if_neg this]
    · show f218 S (nI k) (nI o) z = _
      unfold f218
      rw [s175 RT hk, Option.bind_some, if_pos rfl, s175 RT ho, Option.bind_some, if_pos rfl, if_neg ne, show (1 : Int64) = (1 : Int32).toInt64 from rfl, s144z (n := 1) 1 rfl (by omega) hz]
      rfl
  rcases pk_ix z (n := 2) (by omega) with hz | hz | ⟨w, hw, rfl⟩
  · exact out3 (.inl hz)
  · exact out3 (.inr hz)
  have c1 : f129 S (nI k) (nI o) (nI w) = (if (if S 55 k = -9 then (0 : Int32) else 1) = 0 then (if (if S 55 o = -9 then (0 : Int32) else 1) = 0 then (f130 S (nI k) (nI o)).bind fun y5 => (if nI w = 0 then (f134 y5).bind fun y7 => some (y7, y5) else (f135 y5).bind fun y6 => some (y6, y5)) else some ((-3 : Int32), S)) else some ((-3 : Int32), S)) := by
    unfold f129
    rw [s29 R hk, Option.bind_some, if_neg (by decide), s29 R ho, Option.bind_some, if_neg (by decide), if_neg ne, if_neg (nI_l0 (by omega)), if_pos (show nI w ≤ (1 : Int32) from le_nI (b := 1) (by omega) (by omega)), s34 R he hk, Option.bind_some, s34 R he ho, Option.bind_some]
  have c2 : ∀ T : ov_S, sm_S S T → f218 T (nI k) (nI o) (nI w) = (if S 55 k = (-9 : Int32) then (if S 55 o = (-9 : Int32) then (f219 (ov_up T 42 0 (0 : Int32)) (nI k) (nI o)).bind fun y6 => (if nI w = 0 then some ((y6 42 39), y6) else some ((y6 42 40), y6)) else some ((-3 : Int32), (ov_up T 42 0 (0 : Int32)))) else some ((-3 : Int32), (ov_up T 42 0 (0 : Int32)))) := by
    intro T hT
    have RT := r_sm R (sm_tr hT sm0)
    have e55 : (ov_up T 42 0 0) 55 = S 55 := by
      rw [up_n1 (by decide)]
      exact funext fun j => hT 55 j rfl
    unfold f218
    rw [s175 RT hk, Option.bind_some, if_pos rfl, s175 RT ho, Option.bind_some, if_pos rfl, if_neg ne, show (1 : Int64) = (1 : Int32).toInt64 from rfl, s144y (n := 1) 1 rfl (by omega) (by omega), Option.bind_some, if_neg (by decide), zadd, zadd, ov_ck_t (ib_nI (by omega) (by omega)), ov_ck_t (ib_nI (by omega) (by omega)), nI_clamp (by omega), nI_clamp (by omega), e55]
  have late : ¬ (S 55 k = -9 ∧ S 55 o = -9) → ok2 S G (f129 S (nI k) (nI o) (nI w)) (fun T => f218 T (nI k) (nI o) (nI w)) := fun q => by
    refine o2 h sm_rf sm0 (-3) ?_ ?_
    · rw [c1]
      by_cases a : S 55 k = -9
      · rw [if_pos a, if_pos rfl, if_neg (fun b => q ⟨a, b⟩)]
        rfl
      · rw [if_neg a]
        rfl
    · show f218 S (nI k) (nI o) (nI w) = _
      rw [c2 S sm_rf]
      by_cases a : S 55 k = -9
      · rw [if_pos a, if_neg (fun b => q ⟨a, b⟩)]
      · rw [if_neg a]
  by_cases off : S 55 k = -9 ∧ S 55 o = -9
  · obtain ⟨k9, o9⟩ := off
    obtain ⟨T1, t1, t2, t3⟩ := look1 h hk ho
    have s1 : sm_S S (ov_up (ov_up T1 32 5 (0 : Int32)) 32 6 (-9 : Int32)) := sm_tr t2 (sm_tr (sm_up rfl) (sm_up rfl))
    obtain ⟨T2, u1, u2, u3, u4⟩ := count1 (r_sm R s1) (fil1_up t3 (by rw [up_n1 (by decide), up_n1 (by decide)]) (by rw [up_n1 (by decide), up_n1 (by decide)])) (by rw [up_n2 (by decide), up_eq]) up_eq
    have s2 := sm_tr s1 u2
    have d1 : f129 S (nI k) (nI o) (nI w) = some ((if nI w = 0 then nI (rct (rg1 P (S 55) k o) (rg2 P (S 55) k o) (pD P) (pD P)).1 else (rct (rg1 P (S 55) k o) (rg2 P (S 55) k o) (pD P) (pD P)).2), T2) := by
      rw [c1, if_pos k9, if_pos rfl, if_pos o9, if_pos rfl]
      unfold f130 f134 f135
      rw [t1, Option.bind_some, r_cD R, u1, Option.bind_some, Option.bind_some, Option.bind_some, Option.bind_some, u3, u4]
      by_cases q : nI w = 0
      · rw [if_pos q, if_pos q]
      · rw [if_neg q, if_neg q]
    have s3 := sm_tr s2 (sm0 (S := T2))
    have e55 : (ov_up T2 42 0 0) 55 = S 55 := funext fun j => s3 55 j rfl
    obtain ⟨T3, v1, v2, v3⟩ := look2 (r_sm R s3) e55 hv hk ho eq k9 o9
    have s4 : sm_S T2 (ov_up (ov_up T3 42 39 (0 : Int32)) 42 40 (-9 : Int32)) := sm_tr sm0 (sm_tr v2 (sm_tr (sm_up rfl) (sm_up rfl)))
    obtain ⟨T4, y1, y2, y3, y4⟩ := count2 (r_sm R (sm_tr s2 s4)) (fil2_up v3 (by rw [up_n1 (by decide), up_n1 (by decide)])) (by rw [up_n2 (by decide), up_eq]) up_eq
    refine o2 h s2 (sm_tr s4 y2) _ d1 ?_
    try dsimp only
    rw [c2 T2 s2, if_pos k9, if_pos o9]
    unfold f219
    rw [v1, Option.bind_some, y1, Option.bind_some, Option.bind_some, y3, y4]
    by_cases q : nI w = 0
    · rw [if_pos q, if_pos q]
    · rw [if_neg q, if_neg q]
  · exact late off
end
