-- CALLS: comes, leftOut, doors
/-- only the parts of x are there -/
def rs (g : pg_g) (x : Nat) : pg_g := fun j => if j < 6 ∧ x.testBit j = false then -9 else g j
theorem rs_in {g : pg_g} {x j : Nat} (h : x.testBit j = true) : rs g x j = g j := if_neg (fun q => by rw [h] at q; exact Bool.noConfusion q.2)
theorem rs_out {g : pg_g} {x j : Nat} (h6 : j < 6) (h : x.testBit j = false) : rs g x j = -9 := if_pos ⟨h6, h⟩
theorem rs_hi {g : pg_g} {x j : Nat} (h6 : 6 ≤ j) : rs g x j = g j := if_neg (fun q => by omega)
theorem V_rs {g : pg_g} {N F x : Nat} (hv : pg_V g N F) : pg_V (rs g x) N F := by
  have key : ∀ j, j < 6 → rs g x j = -9 ∨ rs g x j = g j := fun j hj => by
    cases t : x.testBit j
    · exact .inl (rs_out hj t)
    · exact .inr (rs_in t)
  obtain ⟨v1, v2, v3, v4, v5, v6⟩ := hv
  refine ⟨fun j hj => ?_, fun j h1 h2 => ?_, fun f hf => ?_, ?_, fun i j hi hj ne e => ?_, fun i f hi hf e => ?_⟩
  · rcases key j hj with q | q
    · exact .inl q
    · rw [q]
      exact v1 j hj
  · rcases key j h2 with q | q
    · exact q
    · rw [q]
      exact v2 j h1 h2
  · rw [rs_hi (by omega)]
    exact v3 f hf
  · rw [rs_hi (by omega)]
    exact v4
  · rcases key i hi with q | q
    · exact q
    · rcases key j hj with w | w
      · rw [e, w]
      · rw [q, w] at e
        rw [q]
        exact v5 i j hi hj ne e
  · rw [rs_hi (show 6 ≤ 7 + f by omega)] at e
    rcases key i hi with q | q
    · obtain ⟨c, hc, e'⟩ := v3 f hf
      rw [q, e'] at e
      exact nI_m9 (by omega) e.symm
    · rw [q] at e
      exact v6 i f hi hf e
theorem sgb_rs {g : pg_g} {x i j b : Nat} (hi : i < 6) (hj : j < 6) : sgb (rs g x) i j b = (x.testBit i && x.testBit j && sgb g i j b) := by
  unfold sgb
  cases t : x.testBit i
  · rw [rs_out hi t]
    rfl
  · cases u : x.testBit j
    · rw [rs_out hj u]
      simp
    · have e1 : ps (rs g x) i = ps g i := by
        unfold ps
        rw [rs_in t]
      have e2 : ps (rs g x) j = ps g j := by
        unfold ps
        rw [rs_in u]
      rw [e1, e2, rs_in t, rs_in u]
      simp
theorem stm_rs (g : pg_g) (x F : Nat) : stm (rs g x) F = stm g F := by
  have : sl (rs g x) = sl g := funext fun f => by
    unfold sl
    rw [rs_hi (by omega)]
  unfold stm
  rw [this]
section
variable {S : ov_S} {G : ov_L2} {P : pl_T} {a : Nat} {g : pg_g} {p : Nat}
theorem bdm_rs (P : pl_T) (g : pg_g) {x : Nat} (hx : x < 64) : bdm P (rs g x) 63 = bdm P g x := by
  unfold bdm
  apply Nat.eq_of_testBit_eq
  intro i
  rw [tb_pms, tb_pms, Bool.eq_iff_iff, List.any_eq_true, List.any_eq_true]
  constructor
  · rintro ⟨k, hk, q⟩
    have hk' := List.mem_range.mp hk
    refine ⟨k, hk, ?_⟩
    rw [tb_cm (by decide), tb_63 k hk'] at q
    rw [tb_cm (by omega)]
    cases t : x.testBit k
    · rw [rs_out hk' t] at q
      simp at q
    · have e1 : ps (rs g x) k = ps g k := by
        unfold ps
        rw [rs_in t]
      rw [rs_in t, e1] at q
      exact q
  · rintro ⟨k, hk, q⟩
    have hk' := List.mem_range.mp hk
    refine ⟨k, hk, ?_⟩
    rw [tb_cm (by omega)] at q
    rw [tb_cm (by decide), tb_63 k hk']
    cases t : x.testBit k
    · rw [t] at q
      simp at q
    · have e1 : ps (rs g x) k = ps g k := by
        unfold ps
        rw [rs_in t]
      rw [t] at q
      rw [rs_in t, e1]
      exact q
theorem hdx_rs (R : pl_R S P) {x : Nat} (hx : x < 64) : hdx P g x = hdm P (rs g x) := by
  have h6 := r_N6 R
  unfold hdx hdm
  refine mk_ext fun l hl => ?_
  obtain ⟨l1, l2, l3⟩ := r_ln R hl
  have e : sd (rs g x) = sd g := by
    unfold sd
    rw [rs_hi (by omega)]
  rw [e, sgb_rs (by omega) (by omega), stm_rs, bdm_rs P g hx]
  simp only [Bool.and_assoc]
theorem onm_tb (hv : pg_V g (pN P) (pF P)) {k : Nat} (hk : k < 6) : (onm P g).testBit k = decide (g k ≠ -9) := by
  unfold onm
  rw [tb_mk]
  by_cases q : k < pN P
  · rw [decide_eq_true q, Bool.true_and]
  · have := hv.2.1 k (by omega) hk
    rw [this]
    simp
theorem onm_lt (R : pl_R S P) : onm P g < 64 := Nat.lt_of_lt_of_le (mk_lt _ _) (Nat.pow_le_pow_right (n := 2) (by omega) (r_N6 R))
theorem rs_on (hv : pg_V g (pN P) (pF P)) : rs g (onm P g) = g := funext fun j => by
  by_cases h : j < 6
  · cases t : (onm P g).testBit j
    · rw [rs_out h t]
      rw [onm_tb hv h, decide_eq_false_iff_not, Classical.not_not] at t
      exact t.symm
    · exact rs_in t
  · exact rs_hi (by omega)
theorem rs_wo (R : pl_R S P) (hv : pg_V g (pN P) (pF P)) (k : Nat) (hk : k < 6) : rs g (cm (onm P g) (2 ^ k)) = pu g k (-9) := funext fun j => by
  have b := onm_lt (g := g) R
  by_cases h : j < 6
  · have t : (cm (onm P g) (2 ^ k)).testBit j = (decide (g j ≠ -9) && !decide (k = j)) := by rw [tb_cm (by omega), tb_pow, onm_tb hv h]
    by_cases e : j = k
    · rw [rs_out h (by rw [t, decide_eq_true e.symm]; simp), e, pu_eq]
    · rw [pu_ne e]
      by_cases z : g j = -9
      · rw [rs_out h (by rw [t, decide_eq_false (fun q => q z)]; rfl), z]
      · exact rs_in (by rw [t, decide_eq_true z, decide_eq_false (fun q => e q.symm)]; rfl)
  · rw [rs_hi (by omega), pu_ne (by omega)]
-- copies to try on
theorem tc_go (h : in_P S G P) : ∃ S1, f97 21 18 S = some S1 ∧ ag [21, 22, 23] S S1 ∧ pg_E S1 21 (S 55) (pF P) ∧ pl_R S1 P ∧ sm_S S S1 := by
  obtain ⟨S1, q1, q2, q3, q4⟩ := s97 (S := S) (a := 21) (b := 18) (by omega)
  exact ⟨S1, q1, q2, q3 _ _ h.2.2.1.2.1, r_ag h.2.1 q2 (by decide), sm_ag q2 (fun i hi j => by
    simp only [List.mem_cons, List.not_mem_nil, or_false] at hi
    rcases hi with rfl | rfl | rfl <;> rfl)⟩
theorem sc_l : ∀ i, i ∈ [56, 63] → ∀ j, sc_R i j = true := by
  intro i hi j
  simp only [List.mem_cons, List.not_mem_nil, or_false] at hi
  rcases hi with rfl | rfl <;> rfl
theorem mc_go {T : ov_S} {g : pg_g} (R : pl_R T P) (h : T 55 = g) : ∃ T', f158 55 56 T (12 : Int32) = some T' ∧ ag [56] T T' ∧ pg_M T' 56 g ∧ pl_R T' P ∧ sm_S T T' := by
  obtain ⟨T', q1, q2, q3, q4⟩ := s158 (S := T) (p0 := 55) (p1 := 56) (n := 12) (by decide) (by decide) (by decide) (by decide) (by decide) (by decide)
  exact ⟨T', q1, q2, ⟨by decide, fun j hj => by rw [q3 j hj, h]⟩, r_ag R q2 (by decide), sm_ag q2 (fun i hi j => by rw [List.mem_singleton.mp hi]; rfl)⟩
theorem cmd_nn (P : pl_T) (g : pg_g) (k : Nat) {c : Nat} (hc : c < 18) (hf : (frm g (pN P) (pF P)).testBit c = true) : ∃ e, e < 18 ∧ cmd P g k c = nI e := by
  obtain ⟨i, i1, i2, i3, i4⟩ := cmb_sp P g k hc hf
  unfold cmd
  rcases i4 with q | ⟨e, e1, e2⟩
  · rw [if_pos q]
    exact ⟨0, by omega, rfl⟩
  · rw [if_neg (by rw [e2]; exact nI_m9 (by omega))]
    exact ⟨e, e1, e2⟩
theorem c_comes (h : in_P S G P) (x y : Int32) : ok2 S G (f100 S x y) (fun T => f200 T x y) := by
  have R := h.2.1
  have RT := (in_t0 h).2.1
  have hv := h.2.2.1.1
  have he := h.2.2.1.2.1
  have hm := M_t0 S 0
  have h6 := r_N6 R
  have h3 := r_D3 R
  have out : (x < 0 ∨ nI (pN P) ≤ x) → ok2 S G (f100 S x y) (fun T => f200 T x y) := fun hx => by
    refine o2 h sm_rf sm0 (-1) ?_ ?_
    · unfold f100
      rw [s29n R hx]
      rfl
    · show f200 S x y = _
      unfold f200
      rw [s175n RT hx]
      rfl
  rcases pk_ix x (n := pN P) (by omega) with hx | hx | ⟨k, hk, rfl⟩
  · exact out (.inl hx)
  · exact out (.inr hx)
  have out2 : (y < 0 ∨ nI (pD P) ≤ y) → ok2 S G (f100 S (nI k) y) (fun T => f200 T (nI k) y) := fun hy => by
    refine o2 h sm_rf sm0 (-1) ?_ ?_
    · unfold f100
      rw [s29 R hk, s58n R hy]
      rfl
    · show f200 S (nI k) y = _
      unfold f200
      rw [s175 RT hk, s172n RT hy]
      rfl
  rcases pk_ix y (n := pD P) (by omega) with hy | hy | ⟨d, hd, rfl⟩
  · exact out2 (.inl hy)
  · exact out2 (.inr hy)
  by_cases h9 : S 55 k = -9
  · obtain ⟨S1, q1, q2, q3, q4, q5⟩ := tc_go h
    have hc := (r_dr R hd).2
    have c1 : f100 S (nI k) (nI d) = (f101 21 S1 (nI k) (nI d)).bind fun y5 => (f35 21 y5.2 (nI k)).bind fun y6 => some (y6, y5.2) := by
      unfold f100
      rw [s29 R hk, Option.bind_some, if_neg (by decide), s58 R hd, Option.bind_some, if_neg (by decide), s34 R he hk, if_pos h9, Option.bind_some, if_pos rfl, q1]
      rfl
    have c2 : ∀ T : ov_S, sm_S S T → ∃ T', f200 T (nI k) (nI d) = ((f201 T' (nI k) (nI d)).bind fun y5 => (if y5.1 = (-9 : Int32) then some ((-9 : Int32), y5.2) else ov_ck (ov_ibb ((0 : Int32) + nI k) 12) (some ((y5.2 56 (((0 : Int32) + nI k)).toNatClampNeg), y5.2)))) ∧ sm_S T T' ∧ pg_M T' 56 (S 55) ∧ pl_R T' P := by
      intro T hT
      have hI := in_sm hT h
      have e55 : (ov_up T 42 0 0) 55 = S 55 := by
        rw [up_n1 (by decide)]
        exact funext fun j => hT 55 j rfl
      have RT := (in_t0 hI).2.1
      obtain ⟨T', w1, w2, w3, w4, w5⟩ := mc_go RT e55
      refine ⟨T', ?_, sm_tr sm0 w5, w3, w4⟩
      unfold f200
      rw [s175 RT hk, Option.bind_some, if_pos rfl, s172 RT hd, Option.bind_some, if_pos rfl, zadd, ov_ck_t (ib_nI (by omega) (by omega)), nI_clamp (by omega), e55, if_pos h9, w1, Option.bind_some]
    cases t : (frm (S 55) (pN P) (pF P)).testBit (dr P d)
    · have a1 : f101 21 S1 (nI k) (nI d) = some (-9, S1) := by rw [s101 q4 hv q3 hk hd, t]; rfl
      obtain ⟨T', w1, w2, w3, w4⟩ := c2 S1 q5
      refine o2 h q5 w2 (-9) ?_ ?_
      · rw [c1, a1, Option.bind_some]
        try dsimp only
        rw [s35 q4 q3 hk, h9]
        rfl
      · try dsimp only
        rw [w1, s201n w4 hv w3 hk hd t]
        rfl
    · obtain ⟨e, e1, e2⟩ := cmd_nn P (S 55) k hc t
      have a1 : f101 21 S1 (nI k) (nI d) = some (cmd P (S 55) k (dr P d), ov_up S1 (21 + 1) k (cmb P (S 55) k (dr P d)).1) := by rw [s101 q4 hv q3 hk hd, t]; rfl
      have q6 : sm_S S (ov_up S1 (21 + 1) k (cmb P (S 55) k (dr P d)).1) := sm_tr q5 (sm_up rfl)
      obtain ⟨T', w1, w2, w3, w4⟩ := c2 _ q6
      obtain ⟨T2, z1, z2, z3⟩ := s201 w4 hv w3 hk hd h9 t
      refine o2 h q6 (sm_tr w2 (sm_ag z2 sc_l)) (cmb P (S 55) k (dr P d)).1 ?_ ?_
      · rw [c1, a1, Option.bind_some]
        try dsimp only
        rw [s35 (r_sm R q6) (E_pu (by omega) q3) hk, pu_eq]
        rfl
      · try dsimp only
        rw [w1, z1, Option.bind_some]
        try dsimp only
        rw [if_neg (by rw [e2]; exact nI_m9 (by omega)), zadd, ov_ck_t (ib_nI (by omega) (by omega)), nI_clamp (by omega), z3.2 k (by omega), pu_eq]
  · refine o2 h sm_rf sm0 (-3) ?_ ?_
    · unfold f100
      rw [s29 R hk, Option.bind_some, if_neg (by decide), s58 R hd, Option.bind_some, if_neg (by decide), s34 R he hk, if_neg h9]
      rfl
    · show f200 S (nI k) (nI d) = _
      unfold f200
      rw [s175 RT hk, Option.bind_some, if_pos rfl, s172 RT hd, Option.bind_some, if_pos rfl, zadd, ov_ck_t (ib_nI (by omega) (by omega)), nI_clamp (by omega), hm.2 k (by omega), if_neg h9]
-- left out
def lo (P : pl_T) (g : pg_g) : Nat → Int32 × Int32
  | 0 => (-9, -9)
  | k + 1 => if g k ≠ -9 ∧ ¬ nI (pc (hdm P (pu g k (-9)))) ≤ (lo P g k).2 then (nI k, nI (pc (hdm P (pu g k (-9))))) else lo P g k
theorem s113 (R : pl_R S P) (hv : pg_V g (pN P) (pF P)) (he : pg_E S 18 g (pF P)) {x : Nat} (hx : x < 64) : f113 18 S (nI x) = some (nI (pc (hdx P g x))) := by
  have b : hdx P g x < 2 ^ 6 := Nat.lt_of_lt_of_le (mk_lt _ _) (Nat.pow_le_pow_right (n := 2) (by omega) (r_L6 R))
  unfold f113
  rw [s42 R hv he hx, Option.bind_some, s69 (by omega)]
  rfl
theorem lo_m9 (P : pl_T) (g : pg_g) (k : Nat) : (-9 : Int32) ≤ (lo P g k).2 := by
  induction k with
  | zero =>
    show (-9 : Int32) ≤ -9
    decide
  | succ k ih =>
    unfold lo
    split
    · have : pc (hdm P (pu g k (-9))) ≤ 18 := pc_le _
      rw [Int32.le_iff_toInt_le, nI_toInt (by omega)]
      have : (-9 : Int32).toInt = -9 := by decide
      omega
    · exact ih
theorem c_leftOut (h : in_P S G P) (x : Int32) : ok1 S G (f112 S x) (f207 S x) := by
  have R := h.2.1
  have RT := (in_t0 h).2.1
  have hv := h.2.2.1.1
  have he := h.2.2.1.2.1
  have h6 := r_N6 R
  have out : (x < 0 ∨ nI 2 ≤ x) → ok1 S G (f112 S x) (f207 S x) := fun hx => by
    refine o1 h sm0 (-2) ?_ ?_
    · unfold f112
      by_cases h0 : x < 0
      · rw [if_pos h0]
      · have h1 := hx.resolve_left h0
        have : ¬ x ≤ (1 : Int32) := fun q => by
          have a := Int32.le_iff_toInt_le.mp h1
          have b := Int32.le_iff_toInt_le.mp q
          rw [nI_toInt (by omega)] at a
          rw [show (1 : Int32) = nI 1 from rfl, nI_toInt (by omega)] at b
          omega
        rw [if_neg h0, if_neg this]
    · unfold f207
      rw [show (1 : Int64) = (1 : Int32).toInt64 from rfl, s144z (n := 1) 1 rfl (by omega) hx]
      rfl
  rcases pk_ix x (n := 2) (by omega) with hx | hx | ⟨y, hy, rfl⟩
  · exact out (.inl hx)
  · exact out (.inr hx)
  have c1 : f112 S (nI y) = (if nI y = 0 then some (lo P (S 55) (pN P)).1 else some (lo P (S 55) (pN P)).2) := by
    unfold f112
    rw [if_neg (nI_l0 (by omega)), show (1 : Int32) = nI 1 from rfl, if_pos (le_nI (by omega) (by omega)), s33 R he, Option.bind_some]
    refine lp_bind (fun k => ((lo P (S 55) k).1, (lo P (S 55) k).2, nI k)) (pN P) (e := ((lo P (S 55) (pN P)).1, (lo P (S 55) (pN P)).2)) rfl (fun k hk => ?_) ?_ (by omega) rfl
    · show b112_30 S (nI y) (nI (onm P (S 55))) (lo P (S 55) k).1 (lo P (S 55) k).2 (nI k) = some (.inl ((lo P (S 55) (k + 1)).1, (lo P (S 55) (k + 1)).2, nI (k + 1)))
      have ol := onm_lt (g := S 55) R
      have un : lo P (S 55) (k + 1) = (if S 55 k ≠ -9 ∧ ¬ nI (pc (hdm P (pu (S 55) k (-9)))) ≤ (lo P (S 55) k).2 then (nI k, nI (pc (hdm P (pu (S 55) k (-9))))) else lo P (S 55) k) := rfl
      rw [un]
      unfold b112_30
      rw [r_cN R, if_neg (nle_nI hk (by omega)), s23 (by omega) (by omega), onm_tb hv (by omega), Option.bind_some]
      unfold f112_69_30 f112_85_30
      rw [nI_1]
      by_cases q : S 55 k = -9
      · rw [decide_eq_false (fun z => z q), if_c0, if_pos (lo_m9 _ _ _), if_neg (show ¬ (S 55 k ≠ -9 ∧ _) from fun z => z.1 q)]
      · rw [decide_eq_true q, if_c1, s91 (by omega) (by omega), Option.bind_some, s113 R hv he (cm_lt (n := 6) ol), Option.bind_some, hdx_rs R (cm_lt (n := 6) ol), rs_wo R hv k (by omega)]
        by_cases z : nI (pc (hdm P (pu (S 55) k (-9)))) ≤ (lo P (S 55) k).2
        · rw [if_pos z, if_neg (show ¬ (S 55 k ≠ -9 ∧ ¬ nI (pc (hdm P (pu (S 55) k (-9)))) ≤ (lo P (S 55) k).2) from fun w => w.2 z)]
        · rw [if_neg z, if_pos (show S 55 k ≠ -9 ∧ _ from ⟨q, z⟩)]
    · show b112_30 S (nI y) (nI (onm P (S 55))) _ _ (nI (pN P)) = _
      unfold b112_30
      rw [r_cN R, if_pos (le_nI (Nat.le_refl _) (by omega))]
  have L : ∃ T, ov_lp (fun s => b207_32 (nI y) s.1 s.2) 2000 ((0 : Int32), (ov_up (ov_up (ov_up S 42 0 (0 : Int32)) 42 36 (-9 : Int32)) 42 37 (-9 : Int32))) = some T ∧ (sm_S S T ∧ T 42 36 = (lo P (S 55) (pN P)).1 ∧ T 42 37 = (lo P (S 55) (pN P)).2) := by
    refine lp_inv (fun (k : Nat) (s : Int32 × ov_S) => s.1 = nI k ∧ sm_S S s.2 ∧ s.2 42 36 = (lo P (S 55) k).1 ∧ s.2 42 37 = (lo P (S 55) k).2) (fun (T : ov_S) => sm_S S T ∧ T 42 36 = (lo P (S 55) (pN P)).1 ∧ T 42 37 = (lo P (S 55) (pN P)).2) (pN P) ?_ ?_ 0 _ (by omega) ⟨rfl, sm_tr sm0 (sm_tr (sm_up rfl) (sm_up rfl)), rfl, rfl⟩ (by omega)
    · rintro k ⟨x0, T⟩ hk ⟨rfl, w2, w3, w4⟩
      replace w2 : sm_S S T := w2
      replace w3 : T 42 36 = (lo P (S 55) k).1 := w3
      replace w4 : T 42 37 = (lo P (S 55) k).2 := w4
      have RT := r_sm R w2
      have e55 : T 55 = S 55 := funext fun j => w2 55 j rfl
      obtain ⟨T1, u1, u2, u3, u4, u5⟩ := mc_go RT e55
      have M2 : pg_M (ov_up T1 56 k (-9)) 56 (pu (S 55) k (-9)) := M_pu u3
      have R2 : pl_R (ov_up T1 56 k (-9)) P := r_sm u4 (sm_up rfl)
      have V2 := V_off hv (k := k) (by omega)
      have hb := hdm_lt (g := pu (S 55) k (-9)) R
      have s5 : sm_S S (ov_up T1 56 k (-9)) := sm_tr w2 (sm_tr u5 (sm_up rfl))
      have e55' : (ov_up T1 56 k (-9)) 55 = S 55 := funext fun j => s5 55 j rfl
      have x36 : (ov_up T1 56 k (-9)) 42 36 = (lo P (S 55) k).1 := by rw [up_n1 (by decide), u2 42 (by decide), w3]
      have x37 : (ov_up T1 56 k (-9)) 42 37 = (lo P (S 55) k).2 := by rw [up_n1 (by decide), u2 42 (by decide), w4]
      have un : lo P (S 55) (k + 1) = (if S 55 k ≠ -9 ∧ ¬ nI (pc (hdm P (pu (S 55) k (-9)))) ≤ (lo P (S 55) k).2 then (nI k, nI (pc (hdm P (pu (S 55) k (-9))))) else lo P (S 55) k) := rfl
      have c2 : b207_32 (nI y) (nI k) T = some (.inl (nI (k + 1), ov_up (ov_up (ov_up T1 56 k (-9)) 42 36 (lo P (S 55) (k + 1)).1) 42 37 (lo P (S 55) (k + 1)).2)) := by
        unfold b207_32
        rw [r_mN RT, if_neg (nle_nI hk (by omega)), u1, Option.bind_some, zadd, ov_ck_t (ib_nI (by omega) (by omega)), nI_clamp (by omega), s163 R2 V2 M2, Option.bind_some, s191 (by omega), Option.bind_some, ov_ck_t (ib_nI (by omega) (by omega)), e55']
        generalize hU : ov_up T1 56 k (-9) = U at x36 x37
        unfold f207_100_32 f207_101_32 f207_117_32 f207_134_32
        rw [nI_1, un]
        by_cases q : S 55 k = -9
        · rw [if_pos q, if_neg (show ¬ (S 55 k ≠ -9 ∧ _) from fun z => z.1 q), if_pos rfl, if_pos rfl, up_n2 (show 37 ≠ 36 by decide), x36, x37]
        · rw [if_neg q, x37]
          by_cases z : nI (pc (hdm P (pu (S 55) k (-9)))) ≤ (lo P (S 55) k).2
          · rw [if_pos z, if_neg (show ¬ (S 55 k ≠ -9 ∧ ¬ nI (pc (hdm P (pu (S 55) k (-9)))) ≤ (lo P (S 55) k).2) from fun w => w.2 z), if_pos rfl, if_pos rfl, up_n2 (show 37 ≠ 36 by decide), x36, x37]
          · rw [if_neg z, if_pos (show S 55 k ≠ -9 ∧ _ from ⟨q, z⟩), if_neg (by decide), if_neg (by decide)]
      refine ⟨_, c2, rfl, sm_tr s5 (sm_tr (sm_up rfl) (sm_up rfl)), ?_, ?_⟩
      · show (ov_up (ov_up (ov_up T1 56 k (-9)) 42 36 (lo P (S 55) (k + 1)).1) 42 37 (lo P (S 55) (k + 1)).2) 42 36 = _
        rw [up_n2 (by decide), up_eq]
      · show (ov_up (ov_up (ov_up T1 56 k (-9)) 42 36 (lo P (S 55) (k + 1)).1) 42 37 (lo P (S 55) (k + 1)).2) 42 37 = _
        rw [up_eq]
    · rintro ⟨x0, T⟩ ⟨rfl, w2⟩
      have RT : pl_R T P := r_sm R w2.1
      refine ⟨T, ?_, w2⟩
      show b207_32 (nI y) (nI (pN P)) T = _
      unfold b207_32
      rw [r_mN RT, if_pos (le_nI (Nat.le_refl _) (by omega))]
  obtain ⟨T, t1, t2, t3, t4⟩ := L
  have c2 : f207 S (nI y) = (if nI y = 0 then some ((lo P (S 55) (pN P)).1, T) else some ((lo P (S 55) (pN P)).2, T)) := by
    unfold f207
    rw [show (1 : Int64) = (1 : Int32).toInt64 from rfl, s144y (n := 1) 1 rfl (by omega) (by omega), Option.bind_some, if_neg (by decide), t1, Option.bind_some, t3, t4]
  rw [c1, c2]
  by_cases q : nI y = 0
  · rw [if_pos q, if_pos q]
    exact o1 h t2 _ rfl rfl
  · rw [if_neg q, if_neg q]
    exact o1 h t2 _ rfl rfl
-- doors
def trk (S : ov_S) (m c : Nat) : Nat → Bool
  | 0 => true
  | n + 1 => trk S m c n && decide (fdd m c 17 (S 29 n).toNatClampNeg = S 30 n)
theorem trk_dn {m c n k : Nat} (h : k ≤ n) (t : trk S m c k = false) : trk S m c n = false := by
  induction n with
  | zero =>
    have : k = 0 := by omega
    rw [this] at t
    exact t
  | succ n ih =>
    by_cases q : k = n + 1
    · rw [← q]
      exact t
    · unfold trk
      rw [ih (by omega), Bool.false_and]
theorem s128 (ht : in_trod S) {m c : Nat} (hm : m < 2 ^ 18) (hc : c < 18) {t : Nat} (t6 : t ≤ 6) (e28 : S 28 2 = nI t) (et : ∀ j, j < t → ∃ c m, c < 18 ∧ m ≤ 9 ∧ S 29 j = nI c ∧ S 61 j = nI c ∧ S 30 j = nI m ∧ S 62 j = nI m) : f128 S (nI c) (nI m) = some (if trk S m c t then 1 else 0) := by
  unfold f128
  have L : ∃ e, ov_lp (fun s => b128_2 S (nI c) (nI m) s) 2000 (0 : Int32) = some e ∧ ((e = .inl () ∧ trk S m c t = true) ∨ (e = .inr 0 ∧ trk S m c t = false)) := by
    refine lp_inv2 (fun (k : Nat) (s : Int32) => s = nI k ∧ trk S m c k = true) (fun (e : Unit ⊕ Int32) => (e = .inl () ∧ trk S m c t = true) ∨ (e = .inr 0 ∧ trk S m c t = false)) t ?_ ?_ 0 _ (by omega) ⟨rfl, rfl⟩ (by omega)
    · rintro k s hk ⟨rfl, w⟩
      obtain ⟨c', m', z1, z2, z3, z4, z5, z6⟩ := et k hk
      show (∃ s', b128_2 S (nI c) (nI m) (nI k) = _ ∧ _) ∨ ∃ e, b128_2 S (nI c) (nI m) (nI k) = _ ∧ _
      unfold b128_2
      rw [e28, if_neg (nle_nI hk (by omega)), ov_ck_t (ib_nI (by omega) (by omega)), nI_clamp (by omega), z3, s94 hm hc z1, Option.bind_some, ov_ck_t (ib_nI (by omega) (by omega))]
      have un : trk S m c (k + 1) = (trk S m c k && decide (fdd m c 17 (S 29 k).toNatClampNeg = S 30 k)) := rfl
      rw [z3, nI_clamp (by omega), w, Bool.true_and] at un
      by_cases q : fdd m c 17 c' = S 30 k
      · rw [if_pos q]
        exact .inl ⟨_, rfl, nI_1 k, by rw [un]; exact decide_eq_true q⟩
      · rw [if_neg q]
        exact .inr ⟨_, rfl, .inr ⟨rfl, trk_dn (show k + 1 ≤ t by omega) (by rw [un]; exact decide_eq_false q)⟩⟩
    · rintro s ⟨rfl, w⟩
      refine ⟨.inl (), ?_, .inl ⟨rfl, w⟩⟩
      show b128_2 S (nI c) (nI m) (nI t) = _
      unfold b128_2
      rw [e28, if_pos (le_nI (Nat.le_refl _) (by omega))]
  obtain ⟨e, e1, e2⟩ := L
  rw [e1, Option.bind_some]
  rcases e2 with ⟨rfl, w⟩ | ⟨rfl, w⟩
  · rw [w]
    rfl
  · rw [w]
    rfl
theorem c_doors (h : in_P S G P) : ok1 S G (f127 S) (f217 S) := by
  have R := h.2.1
  have hv := h.2.2.1.1
  have he := h.2.2.1.2.1
  have h3 := r_D3 R
  have ht := h.2.2.2.2.2.1
  obtain ⟨t, t1, t2, t3, t4⟩ := h.2.2.2.2.2.1
  have fl : cm 262143 (stm (S 55) (pF P)) < 2 ^ 18 := cm_lt (by decide)
  have sl := stm_lt hv
  have c1 : f127 S = some (nI (mk (pD P) (fun d => trk S (cm 262143 (stm (S 55) (pF P))) (dr P d) t))) := by
    unfold f127
    rw [s43 (r_F4 R) hv he, Option.bind_some, show (262143 : Int32) = nI 262143 from rfl, nI_cm]
    refine lp_mask (body := b127_18 S (nI (cm 262143 (stm (S 55) (pF P))))) (n := pD P) (fun d => trk S (cm 262143 (stm (S 55) (pF P))) (dr P d) t) (by omega) (fun d m hd hm => ?_) (fun m hm => ?_) rfl
    · unfold b127_18
      rw [r_cD R, if_neg (nle_nI hd (by omega)), s59 R hd, Option.bind_some, s128 ht fl (r_dr R hd).2 t1 t2 t4, Option.bind_some]
      cases q : trk S (cm 262143 (stm (S 55) (pF P))) (dr P d) t
      · rw [if_c0]
        exact or_f rfl
      · rw [if_c1, s27 (by omega), Option.bind_some]
        exact or_t rfl
    · unfold b127_18
      rw [r_cD R, if_pos (le_nI (Nat.le_refl _) (by omega))]
  have L : ∃ e, ov_lp (fun s => b217_9 s.1 s.2.1 s.2.2) 2000 ((0 : Int32), (0 : Int32), (ov_up S 42 0 (0 : Int32))) = some e ∧ (e.1 = nI (mk (pD P) (fun d => trk S (cm 262143 (stm (S 55) (pF P))) (dr P d) t)) ∧ sm_S S e.2) := by
    refine lp_inv (fun (d : Nat) (s : Int32 × Int32 × ov_S) => s.1 = nI (mk d (fun d => trk S (cm 262143 (stm (S 55) (pF P))) (dr P d) t)) ∧ s.2.1 = nI d ∧ sm_S S s.2.2) (fun (e : Int32 × ov_S) => e.1 = nI (mk (pD P) (fun d => trk S (cm 262143 (stm (S 55) (pF P))) (dr P d) t)) ∧ sm_S S e.2) (pD P) ?_ ?_ 0 _ (by omega) ⟨rfl, rfl, sm0⟩ (by omega)
    · rintro d ⟨x1, x2, T⟩ hd ⟨w1, w2, w3⟩
      replace w1 : x1 = _ := w1
      replace w2 : x2 = nI d := w2
      replace w3 : sm_S S T := w3
      subst w1
      subst w2
      have RT := r_sm R w3
      have e55 : T 55 = S 55 := funext fun j => w3 55 j rfl
      have hc := (r_dr R hd).2
      obtain ⟨T', u1, u2, u3⟩ := s179 (S := T) (c := dr P d) (t := stm (S 55) (pF P)) (m := cm 262143 (stm (S 55) (pF P))) hc sl fl (fun n hn => by rw [tb_cm (by decide), tb_all n hn]; rfl)
      have w4 : sm_S S T' := sm_tr w3 (sm_ag u2 (fun i hi j => by rw [List.mem_singleton.mp hi]; rfl))
      have I2 : ov_lp (fun s => b217_40 T' (nI (mk d (fun d => trk S (cm 262143 (stm (S 55) (pF P))) (dr P d) t))) (nI d) s.1 s.2) 2000 ((1 : Int32), (0 : Int32)) = some (if trk S (cm 262143 (stm (S 55) (pF P))) (dr P d) t then 1 else 0) := by
        refine lp_for (fun n => ((if trk S (cm 262143 (stm (S 55) (pF P))) (dr P d) n then (1 : Int32) else 0), nI n)) t rfl (fun n hn => ?_) ?_ (by omega)
        · obtain ⟨c', m', z1, z2, z3, z4, z5, z6⟩ := t4 n hn
          have un : trk S (cm 262143 (stm (S 55) (pF P))) (dr P d) (n + 1) = (trk S (cm 262143 (stm (S 55) (pF P))) (dr P d) n && decide (fdd (cm 262143 (stm (S 55) (pF P))) (dr P d) 17 (S 29 n).toNatClampNeg = S 30 n)) := rfl
          show b217_40 T' _ (nI d) (if trk S (cm 262143 (stm (S 55) (pF P))) (dr P d) n then (1 : Int32) else 0) (nI n) = some (.inl ((if trk S (cm 262143 (stm (S 55) (pF P))) (dr P d) (n + 1) then (1 : Int32) else 0), nI (n + 1)))
          unfold b217_40 f217_79_40 f217_80_40
          rw [w4 42 30 rfl, t3, if_neg (nle_nI hn (by omega)), nI_1, un, z3, nI_clamp (by omega)]
          cases q : trk S (cm 262143 (stm (S 55) (pF P))) (dr P d) n
          · rw [if_c0]
            rfl
          · rw [if_c1, nI_clamp (by omega), w4 61 n rfl, w4 62 n rfl, z4, z6, z5, ov_ck_t (ib_nI (by omega) (by omega)), ov_ck_t (ib_nI (by omega) (by omega)), ov_ck_t (ib_nI (by omega) (by omega)), nI_clamp (by omega), u3 c' z1, Bool.true_and]
            by_cases y : fdd (cm 262143 (stm (S 55) (pF P))) (dr P d) 17 c' = nI m'
            · rw [if_pos y, decide_eq_true y]
              rfl
            · rw [if_neg y, decide_eq_false y]
              rfl
        · show b217_40 T' _ (nI d) _ (nI t) = _
          unfold b217_40
          rw [w4 42 30 rfl, t3, if_pos (le_nI (Nat.le_refl _) (by omega))]
      have un : mk (d + 1) (fun d => trk S (cm 262143 (stm (S 55) (pF P))) (dr P d) t) = mk d (fun d => trk S (cm 262143 (stm (S 55) (pF P))) (dr P d) t) ||| (if trk S (cm 262143 (stm (S 55) (pF P))) (dr P d) t then 2 ^ d else 0) := rfl
      refine ⟨(nI (mk (d + 1) (fun d => trk S (cm 262143 (stm (S 55) (pF P))) (dr P d) t)), nI (d + 1), T'), ?_, rfl, rfl, w4⟩
      show b217_9 _ (nI d) T = _
      unfold b217_9
      rw [r_mD RT, if_neg (nle_nI hd (by omega)), ov_ck_t (ib_nI (by omega) (by omega)), s168 RT ⟨by decide, fun j _ => by rw [e55]⟩ hv, Option.bind_some, nI_clamp (by omega), r_md RT hd, u1, Option.bind_some, I2, Option.bind_some, un]
      unfold f217_99_9
      rw [nI_1]
      cases q : trk S (cm 262143 (stm (S 55) (pF P))) (dr P d) t
      · rw [if_c0, show (0 : Int32) = nI 0 from rfl, nI_or]
        rfl
      · rw [if_c1, nI_sh1 d (by omega), nI_or]
        rfl
    · rintro ⟨x1, x2, T⟩ ⟨w1, w2, w3⟩
      replace w2 : x2 = nI (pD P) := w2
      replace w3 : sm_S S T := w3
      subst w2
      refine ⟨(x1, T), ?_, w1, w3⟩
      show b217_9 x1 (nI (pD P)) T = _
      unfold b217_9
      rw [r_mD (r_sm R w3), if_pos (le_nI (Nat.le_refl _) (by omega))]
  obtain ⟨⟨e1, e2⟩, l1, l2, l3⟩ := L
  replace l2 : e1 = _ := l2
  refine o1 h l3 _ c1 ?_
  unfold f217
  rw [l1, Option.bind_some, l2]
end
