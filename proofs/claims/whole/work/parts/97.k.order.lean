-- ORDERS: one comes by the least door that is free
def ldr (P : pl_T) (g : pg_g) : Nat → Nat → Option Nat
  | 0, _ => none
  | r + 1, d => if (frm g (pN P) (pF P)).testBit (dr P d) = true then some d else ldr P g r (d + 1)
def cag (P : pl_T) (g : pg_g) (k : Nat) : pg_g := match ldr P g (pD P) 0 with
  | some d => (cst P g k d).2
  | none => g
theorem ldr_sp {P : pl_T} {g : pg_g} : ∀ r d e, ldr P g r d = some e → d ≤ e ∧ e < d + r ∧ (frm g (pN P) (pF P)).testBit (dr P e) = true
  | 0, d, e, h => by cases h
  | r + 1, d, e, h => by
    by_cases q : (frm g (pN P) (pF P)).testBit (dr P d) = true
    · have : ldr P g (r + 1) d = some d := if_pos q
      rw [this] at h
      cases h
      exact ⟨by omega, by omega, q⟩
    · have : ldr P g (r + 1) d = ldr P g r (d + 1) := if_neg q
      rw [this] at h
      obtain ⟨a, b, c⟩ := ldr_sp r (d + 1) e h
      exact ⟨by omega, by omega, c⟩
theorem cag_s {P : pl_T} {g : pg_g} {d : Nat} (h : ldr P g (pD P) 0 = some d) (k : Nat) : cag P g k = (cst P g k d).2 := by
  unfold cag
  rw [h]
theorem cag_n {P : pl_T} {g : pg_g} (h : ldr P g (pD P) 0 = none) (k : Nat) : cag P g k = g := by
  unfold cag
  rw [h]
section
variable {S : ov_S} {G : ov_L2} {P : pl_T} {a : Nat} {g : pg_g} {p : Nat}
theorem cag_v (hv : pg_V g (pN P) (pF P)) (R : pl_R S P) {k : Nat} (hk : k < pN P) : pg_V (cag P g k) (pN P) (pF P) := by
  cases h : ldr P g (pD P) 0 with
  | none =>
    rw [cag_n h]
    exact hv
  | some d =>
    obtain ⟨a1, a2, a3⟩ := ldr_sp _ _ _ h
    rw [cag_s h]
    exact cst_v hv R hk (by omega)
theorem cag_o {k o : Nat} (h : o ≠ k) : cag P g k o = g o := by
  cases e : ldr P g (pD P) 0 with
  | none => rw [cag_n e]
  | some d =>
    rw [cag_s e]
    exact cst_o h
theorem cag_b {k : Nat} (h9 : g k = -9) : pu (cag P g k) k (-9) = g := funext fun j => by
  by_cases e : j = k
  · rw [e, pu_eq, h9]
  · rw [pu_ne e, cag_o e]
theorem lpL (R : pl_R S P) (hv : pg_V g (pN P) (pF P)) : ∀ r d N, d + r = pD P → r < N → ov_lp (fun s => b107_7 21 S (nI (frm g (pN P) (pF P))) s) N (nI d) = some (match ldr P g r d with | some e => .inr (nI e) | none => .inl ())
  | 0, d, N, hd, hN => by
    have h3 := r_D3 R
    obtain ⟨M, rfl⟩ : ∃ M, N = M + 1 := ⟨N - 1, by omega⟩
    apply lp_stop
    show b107_7 21 S _ (nI d) = _
    unfold b107_7
    rw [r_cD R, if_pos (le_nI (by omega) (by omega))]
    rfl
  | r + 1, d, N, hd, hN => by
    have h3 := r_D3 R
    have fl := frm_lt g (pN P) (pF P)
    have hc := (r_dr R (show d < pD P by omega)).2
    obtain ⟨M, rfl⟩ : ∃ M, N = M + 1 := ⟨N - 1, by omega⟩
    have b : b107_7 21 S (nI (frm g (pN P) (pF P))) (nI d) = (if (frm g (pN P) (pF P)).testBit (dr P d) = true then some (.inr (.inr (nI d))) else some (.inl (nI (d + 1)))) := by
      unfold b107_7
      rw [r_cD R, if_neg (nle_nI (by omega) (by omega)), s59 R (by omega), Option.bind_some, s23 (by omega) (by omega), Option.bind_some, nI_1]
      cases (frm g (pN P) (pF P)).testBit (dr P d)
      · rfl
      · rfl
    by_cases q : (frm g (pN P) (pF P)).testBit (dr P d) = true
    · have e : ldr P g (r + 1) d = some d := if_pos q
      rw [if_pos q] at b
      rw [e]
      exact lp_stop b
    · have e : ldr P g (r + 1) d = ldr P g r (d + 1) := if_neg q
      rw [if_neg q] at b
      rw [e, lp_go (body := fun s => b107_7 21 S (nI (frm g (pN P) (pF P))) s) b]
      exact lpL R hv r (d + 1) M (by omega) (by omega)
theorem s107 (R : pl_R S P) (hv : pg_V g (pN P) (pF P)) (he : pg_E S 21 g (pF P)) {k : Nat} (hk : k < pN P) : ∃ d T r, f107 21 S = some d ∧ f101 21 S (nI k) d = some (r, T) ∧ ag [22] S T ∧ pg_E T 21 (cag P g k) (pF P) := by
  have h3 := r_D3 R
  have L := lpL R hv (pD P) 0 2000 (by omega) (by omega)
  have e107 : f107 21 S = some (match ldr P g (pD P) 0 with | some e => nI e | none => -9) := by
    unfold f107
    rw [s53f R hv he, Option.bind_some]
    have L : ov_lp (fun s => b107_7 21 S (nI (frm g (pN P) (pF P))) s) 2000 (0 : Int32) = _ := L
    rw [L, Option.bind_some]
    cases ldr P g (pD P) 0 <;> rfl
  cases h : ldr P g (pD P) 0 with
  | none =>
    rw [h] at e107
    rw [cag_n h]
    exact ⟨-9, S, -9, e107, s101n R hv he, ag_rf, he⟩
  | some d =>
    rw [h] at e107
    rw [cag_s h]
    obtain ⟨a1, a2, a3⟩ := ldr_sp _ _ _ h
    obtain ⟨T, t1, t2, t3⟩ := c101 R hv he hk (d := d) (by omega)
    exact ⟨nI d, T, _, e107, t1, t2, t3⟩
theorem cst_f {k d : Nat} (R : pl_R S P) (hd : d < pD P) : ((frm g (pN P) (pF P)).testBit (dr P d) = true → ∃ e, e < 18 ∧ (cst P g k d).1 = nI e) ∧ (¬ (frm g (pN P) (pF P)).testBit (dr P d) = true → (cst P g k d).1 = -9 ∧ (cst P g k d).2 = g) := by
  constructor
  · intro t
    obtain ⟨e, e1, e2⟩ := cmd_nn P g k (r_dr R hd).2 t
    exact ⟨e, e1, by rw [(cst_y (k := k) t).1, e2]⟩
  · intro t
    exact cst_n t
theorem lpM {k : Nat} (hk : k < pN P) : ∀ r d N (S : ov_S) (g : pg_g), pl_R S P → pg_V g (pN P) (pF P) → pg_M S 56 g → g k = -9 → d + r = pD P → r + 1 < N → ∃ T, ov_lp (fun s => b204_4 (nI k) s.1 s.2.1 s.2.2) N ((0 : Int32), nI d, S) = some T ∧ ag [56, 63] S T ∧ pg_M T 56 (match ldr P g r d with | some e => (cst P g k e).2 | none => g)
  | 0, d, N, S, g, R, hv, hm, h9, hd, hN => by
    have h3 := r_D3 R
    obtain ⟨M, rfl⟩ : ∃ M, N = M + 1 := ⟨N - 1, by omega⟩
    refine ⟨S, ?_, ag_rf, hm⟩
    apply lp_stop
    show b204_4 (nI k) 0 (nI d) S = _
    unfold b204_4
    rw [r_mD R, if_pos (le_nI (by omega) (by omega))]
  | r + 1, d, N, S, g, R, hv, hm, h9, hd, hN => by
    have h3 := r_D3 R
    obtain ⟨M, rfl⟩ : ∃ M, N = M + 1 + 1 := ⟨N - 2, by omega⟩
    obtain ⟨T, t1, t2, t3⟩ := c201 R hv hm hk (d := d) (by omega) h9
    have R1 := r_ag R t2 (by decide)
    obtain ⟨cy, cn⟩ := cst_f (g := g) (k := k) R (show d < pD P by omega)
    by_cases q : (frm g (pN P) (pF P)).testBit (dr P d) = true
    · have e : ldr P g (r + 1) d = some d := if_pos q
      obtain ⟨x, x1, x2⟩ := cy q
      have b : b204_4 (nI k) 0 (nI d) S = some (.inl ((1 : Int32), nI (d + 1), T)) := by
        unfold b204_4 f204_32_4
        rw [r_mD R, if_neg (nle_nI (by omega) (by omega)), if_pos rfl, t1, Option.bind_some]
        dsimp only
        rw [if_neg (by rw [x2]; exact nI_m9 (by omega)), nI_1]
      have b2 : b204_4 (nI k) 1 (nI (d + 1)) T = some (.inr T) := by
        unfold b204_4
        rw [r_mD R1]
        by_cases z : nI (pD P) ≤ nI (d + 1)
        · rw [if_pos z]
        · rw [if_neg z, if_neg (by decide)]
      rw [e, lp_go (body := fun s => b204_4 (nI k) s.1 s.2.1 s.2.2) (s := ((0 : Int32), nI d, S)) (s' := ((1 : Int32), nI (d + 1), T)) b]
      exact ⟨T, lp_stop (body := fun s => b204_4 (nI k) s.1 s.2.1 s.2.2) (s := ((1 : Int32), nI (d + 1), T)) b2, t2, t3⟩
    · have e : ldr P g (r + 1) d = ldr P g r (d + 1) := if_neg q
      obtain ⟨n1, n2⟩ := cn q
      have b : b204_4 (nI k) 0 (nI d) S = some (.inl ((0 : Int32), nI (d + 1), T)) := by
        unfold b204_4 f204_32_4
        rw [r_mD R, if_neg (nle_nI (by omega) (by omega)), if_pos rfl, t1, Option.bind_some]
        dsimp only
        rw [if_pos n1, nI_1]
      rw [n2] at t3
      obtain ⟨T2, y1, y2, y3⟩ := lpM hk r (d + 1) (M + 1) T g R1 hv t3 h9 (by omega) (by omega)
      rw [e, lp_go (body := fun s => b204_4 (nI k) s.1 s.2.1 s.2.2) (s := ((0 : Int32), nI d, S)) (s' := ((0 : Int32), nI (d + 1), T)) b]
      exact ⟨T2, y1, ag_tr t2 y2, y3⟩
theorem s204 (R : pl_R S P) (hv : pg_V g (pN P) (pF P)) (hm : pg_M S 56 g) {k : Nat} (hk : k < pN P) (h9 : g k = -9) : ∃ T, f204 S (nI k) = some T ∧ ag [56, 63] S T ∧ pg_M T 56 (cag P g k) := by
  have h3 := r_D3 R
  obtain ⟨T, t1, t2, t3⟩ := lpM hk (pD P) 0 2000 S g R hv hm h9 (by omega) (by omega)
  have t1 : ov_lp (fun s => b204_4 (nI k) s.1 s.2.1 s.2.2) 2000 ((0 : Int32), (0 : Int32), S) = some T := t1
  refine ⟨T, ?_, t2, t3⟩
  unfold f204
  rw [t1]
  rfl
end
-- one order after the other
def lfG (P : pl_T) : pg_g → List Nat → pg_g
  | g, [] => g
  | g, k :: t => lfG P (cag P g k) t
def lfN : Int32 → List Nat → Int32
  | x, [] => x
  | x, k :: t => lfN ((((10 : Int32) * x) + nI k) + 1) t
def ost (P : pl_T) (g : pg_g) (x : Int32) (o : Int32 × Int32) (l : List Nat) : Int32 × Int32 := if nI (pc (hdm P (lfG P g l))) ≤ o.1 then o else (nI (pc (hdm P (lfG P g l))), lfN x l)
def ofl (P : pl_T) (g : pg_g) (x : Int32) : List (List Nat) → Int32 × Int32 → Int32 × Int32
  | [], o => o
  | l :: t, o => ofl P g x t (ost P g x o l)
theorem ofl_app {P : pl_T} {g : pg_g} {x : Int32} : ∀ (l1 l2 : List (List Nat)) (o : Int32 × Int32), ofl P g x (l1 ++ l2) o = ofl P g x l2 (ofl P g x l1 o)
  | [], _, _ => rfl
  | l :: t, l2, o => ofl_app t l2 (ost P g x o l)
theorem ofl_map {P : pl_T} {g : pg_g} {x : Int32} {k : Nat} : ∀ (ls : List (List Nat)) (o : Int32 × Int32), ofl P g x (ls.map (fun l => k :: l)) o = ofl P (cag P g k) ((((10 : Int32) * x) + nI k) + 1) ls o
  | [], _ => rfl
  | l :: t, o => ofl_map t (ost P g x o (k :: l))
section
variable {S : ov_S} {G : ov_L2} {P : pl_T} {a : Nat} {g : pg_g} {p : Nat}
theorem s106 (R : pl_R S P) (hv : pg_V g (pN P) (pF P)) (he : pg_E S 21 g (pF P)) (x : Int32) : ∃ T, f106 S x = some T ∧ sm_S S T ∧ ag [31] S T ∧ (T 31 2, T 31 3) = ost P g x (S 31 2, S 31 3) [] := by
  have hb := hdm_lt (g := g) R
  unfold f106
  rw [s42f R hv he, Option.bind_some, s69 (by omega), Option.bind_some]
  by_cases q : nI (pc (hdm P g)) ≤ S 31 2
  · rw [if_pos q]
    exact ⟨S, rfl, sm_rf, ag_rf, (if_pos q).symm⟩
  · rw [if_neg q]
    refine ⟨_, rfl, sm_tr (sm_up rfl) (sm_up rfl), ag_tr (ag_up (by decide)) (ag_up (by decide)), ?_⟩
    rw [up_n2 (show 2 ≠ 3 by decide), up_eq, up_eq]
    exact (if_neg q).symm
theorem pc_z {m : Nat} (hm : m < 64) (h : pc m = 0) : m = 0 := by
  apply Nat.eq_of_testBit_eq
  intro i
  rw [Nat.zero_testBit]
  cases t : m.testBit i
  · rfl
  · exfalso
    have i6 : i < 6 := Classical.byContradiction fun z => by
      rw [Nat.testBit_lt_two_pow (Nat.lt_of_lt_of_le (show m < 2 ^ 6 from hm) (Nat.pow_le_pow_right (by decide) (by omega)))] at t
      cases t
    have := pcn_strict (a := 0) (b := m) (j := i) (fun z h => by rw [Nat.zero_testBit] at h; cases h) t (Nat.zero_testBit _) 18 (by omega)
    unfold pc at h
    omega
theorem pc_wo {m k : Nat} (hm : m < 64) (hk : k < 6) (t : m.testBit k = true) : pc m = pc (cm m (2 ^ k)) + 1 := by
  have ck : (cm m (2 ^ k)).testBit k = false := by rw [tb_cm (by omega), tb_pow, decide_eq_true rfl]; simp
  have e : cm m (2 ^ k) ||| 2 ^ k = m := by
    apply Nat.eq_of_testBit_eq
    intro i
    rw [Nat.testBit_or, tb_cm (by omega), tb_pow]
    by_cases q : k = i
    · rw [← q, t, decide_eq_true rfl]
      rfl
    · rw [decide_eq_false q]
      simp
  rw [← pc_or ck (by omega), e]
theorem rec1 : ∀ f m dp N (x : Int32) (S : ov_S) (g : pg_g), m < 64 → pc m ≤ f → dp + pc m ≤ 6 → f + 1 ≤ N → pl_R S P → pg_V g (pN P) (pF P) → pg_E S 21 g (pF P) → (∀ k, k < 6 → m.testBit k = true → k < pN P ∧ g k = -9) → ∃ T, g105 N (nI m) x (nI dp) S = some T ∧ sm_S S T ∧ pg_E T 21 g (pF P) ∧ (T 31 2, T 31 3) = ofl P g x (pmt f m) (S 31 2, S 31 3) := by
  have zero : ∀ dp N (x : Int32) (S : ov_S) (g : pg_g), 1 ≤ N → pl_R S P → pg_V g (pN P) (pF P) → pg_E S 21 g (pF P) → ∃ T, g105 N (nI 0) x (nI dp) S = some T ∧ sm_S S T ∧ pg_E T 21 g (pF P) ∧ (T 31 2, T 31 3) = ofl P g x [[]] (S 31 2, S 31 3) := by
    intro dp N x S g hN R hv he
    obtain ⟨M, rfl⟩ : ∃ M, N = M + 1 := ⟨N - 1, by omega⟩
    obtain ⟨T, t1, t2, t3, t4⟩ := s106 R hv he x
    refine ⟨T, ?_, t2, E_n he (t3 21 (by decide)) (t3 22 (by decide)) (t3 23 (by decide)), t4⟩
    show f105 (g105 M) S (nI 0) x (nI dp) = _
    unfold f105 f105_10
    rw [if_pos (show nI 0 = 0 from rfl), t1]
    rfl
  intro f
  induction f with
  | zero =>
    intro m dp N x S g hm hp hd hN R hv he hb
    have m0 := pc_z hm (by omega)
    rw [m0]
    exact zero dp N x S g (by omega) R hv he
  | succ f ih =>
    intro m dp N x S g hm hp hd hN R hv he hb
    have h6 := r_N6 R
    by_cases m0 : m = 0
    · have e : pmt (f + 1) m = [[]] := if_pos m0
      rw [e, m0]
      exact zero dp N x S g (by omega) R hv he
    · have e : pmt (f + 1) m = pml (pmt f) m 6 := if_neg m0
      have pp : 1 ≤ pc m := by
        rcases Nat.eq_zero_or_pos (pc m) with z | z
        · exact absurd (pc_z hm z) m0
        · exact z
      obtain ⟨M, rfl⟩ : ∃ M, N = M + 1 := ⟨N - 1, by omega⟩
      have L : ∃ T, ov_lp (fun s => b105_25 (g105 M) (nI m) x (nI dp) s.1 s.2) 2000 ((0 : Int32), S) = some T ∧ (sm_S S T ∧ pg_E T 21 g (pF P) ∧ (T 31 2, T 31 3) = ofl P g x (pml (pmt f) m 6) (S 31 2, S 31 3)) := by
        refine lp_inv (fun (k : Nat) (s : Int32 × ov_S) => s.1 = nI k ∧ sm_S S s.2 ∧ pg_E s.2 21 g (pF P) ∧ (s.2 31 2, s.2 31 3) = ofl P g x (pml (pmt f) m k) (S 31 2, S 31 3)) (fun (T : ov_S) => sm_S S T ∧ pg_E T 21 g (pF P) ∧ (T 31 2, T 31 3) = ofl P g x (pml (pmt f) m 6) (S 31 2, S 31 3)) 6 ?_ ?_ 0 _ (by omega) ⟨rfl, sm_rf, he, rfl⟩ (by omega)
        · rintro k ⟨x5, T⟩ hk ⟨rfl, w2, w3, w4⟩
          replace w2 : sm_S S T := w2
          replace w3 : pg_E T 21 g (pF P) := w3
          replace w4 : (T 31 2, T 31 3) = ofl P g x (pml (pmt f) m k) (S 31 2, S 31 3) := w4
          have RT := r_sm R w2
          have un : pml (pmt f) m (k + 1) = pml (pmt f) m k ++ (if m.testBit k then (pmt f (cm m (2 ^ k))).map (fun l => k :: l) else []) := rfl
          show ∃ s', b105_25 (g105 M) (nI m) x (nI dp) (nI k) T = some (.inl s') ∧ _
          unfold b105_25 f105_85_25
          rw [if_neg (show ¬ (6 : Int32) ≤ nI k from nle_nI (a := 6) hk (by omega)), s23 (by omega) (by omega), Option.bind_some]
          cases t : m.testBit k
          · rw [t] at un
            rw [if_c0]
            refine ⟨_, rfl, nI_1 k, w2, w3, ?_⟩
            rw [un, ofl_app]
            exact w4
          · rw [t] at un
            obtain ⟨kN, k9⟩ := hb k hk t
            obtain ⟨d, T1, r, a1, a2, a3, a4⟩ := s107 RT hv w3 kN
            have R1 := r_ag RT a3 (by decide)
            have cl : cm m (2 ^ k) < 64 := cm_lt (n := 6) hm
            have pw := pc_wo hm hk t
            obtain ⟨T2, b1, b2, b3, b4⟩ := ih (cm m (2 ^ k)) (dp + 1) M ((((10 : Int32) * x) + nI k) + 1) T1 (cag P g k) cl (by omega) (by omega) (by omega) R1 (cag_v hv RT kN) a4 (fun j hj q => by
              rw [tb_cm (by omega), tb_pow, Bool.and_eq_true, Bool.not_eq_true', decide_eq_false_iff_not] at q
              obtain ⟨z1, z2⟩ := hb j hj q.1
              exact ⟨z1, by rw [cag_o (fun w => q.2 w.symm)]; exact z2⟩)
            have R2 := r_sm R1 b2
            have s1 : sm_S T T1 := sm_ag a3 (fun i hi j => by rw [List.mem_singleton.mp hi]; rfl)
            rw [if_c1, a1, Option.bind_some, a2, Option.bind_some, s91 (by omega) (by omega), Option.bind_some, nI_1 dp]
            dsimp only
            rw [b1, Option.bind_some, s90 R2 kN, Option.bind_some]
            refine ⟨_, rfl, nI_1 k, sm_tr w2 (sm_tr s1 (sm_tr b2 (sm_up rfl))), ?_, ?_⟩
            · have := E_pu (k := k) (x := -9) (by omega) b3
              rw [cag_b k9] at this
              exact this
            · show ((ov_up T2 (21 + 1) k (-9)) 31 2, (ov_up T2 (21 + 1) k (-9)) 31 3) = _
              rw [up_n1 (by decide), b4, a3 31 (by decide), w4, un, ofl_app, if_pos rfl, ofl_map]
        · rintro ⟨x5, T⟩ ⟨rfl, w⟩
          refine ⟨T, ?_, w⟩
          show b105_25 _ _ _ _ (nI 6) T = _
          unfold b105_25
          rw [if_pos (show (6 : Int32) ≤ nI 6 from le_nI (a := 6) (Nat.le_refl _) (by omega))]
      obtain ⟨T, t1, t2⟩ := L
      rw [e]
      refine ⟨T, ?_, t2⟩
      show f105 (g105 M) S (nI m) x (nI dp) = _
      unfold f105
      rw [if_neg (fun q => m0 ((nI_z (by omega)).mp q)), if_pos (show nI dp < (6 : Int32) from lt_nI (b := 6) (by omega) (by omega)), t1]
      rfl
/-- who waits -/
def wtm (P : pl_T) (g : pg_g) : Nat := cm (2 ^ pN P - 1) (onm P g)
theorem wtm_tb (hv : pg_V g (pN P) (pF P)) (h6 : pN P ≤ 6) (k : Nat) : (wtm P g).testBit k = true ↔ k < pN P ∧ g k = -9 := by
  have p64 : 2 ^ pN P ≤ 2 ^ 6 := Nat.pow_le_pow_right (by decide) h6
  unfold wtm
  rw [tb_cm (by omega), Nat.testBit_two_pow_sub_one, Bool.and_eq_true, decide_eq_true_eq]
  constructor
  · rintro ⟨q1, q2⟩
    rw [onm_tb hv (by omega)] at q2
    refine ⟨q1, ?_⟩
    simpa using q2
  · rintro ⟨q1, q2⟩
    refine ⟨q1, ?_⟩
    rw [onm_tb hv (by omega), q2]
    rfl
theorem wtm_lt (h6 : pN P ≤ 6) : wtm P g < 64 := by
  have p64 : 2 ^ pN P ≤ 2 ^ 6 := Nat.pow_le_pow_right (by decide) h6
  have p0 : 0 < 2 ^ pN P := Nat.two_pow_pos _
  exact cm_lt (n := 6) (by omega)
theorem c103 (h : in_P S G P) (x : Int32) : ∃ T, f103 S x = some (if x = 0 then (ofl P (S 55) 0 (pmt 6 (wtm P (S 55))) (-1, 0)).1 else (ofl P (S 55) 0 (pmt 6 (wtm P (S 55))) (-1, 0)).2, T) ∧ sm_S S T := by
  have R := h.2.1
  have hv := h.2.2.1.1
  have h6 := r_N6 R
  obtain ⟨S1, q1, q2, q3, q4, q5⟩ := tc_go h
  have s1 : sm_S S1 (ov_up (ov_up S1 31 2 (-1)) 31 3 0) := sm_tr (sm_up rfl) (sm_up rfl)
  have e2 : (ov_up (ov_up S1 31 2 (-1)) 31 3 0) 31 2 = -1 := by rw [up_n2 (by decide), up_eq]
  have e3 : (ov_up (ov_up S1 31 2 (-1)) 31 3 0) 31 3 = 0 := up_eq
  have eE : pg_E (ov_up (ov_up S1 31 2 (-1)) 31 3 0) 21 (S 55) (pF P) := E_n q3 (by rw [up_n1 (by decide), up_n1 (by decide)]) (by rw [up_n1 (by decide), up_n1 (by decide)]) (by rw [up_n1 (by decide), up_n1 (by decide)])
  generalize hU : ov_up (ov_up S1 31 2 (-1)) 31 3 0 = U at s1 e2 e3 eE
  have RU := r_sm q4 s1
  have wl := wtm_lt (g := S 55) h6
  have p6 := pc_6 wl
  obtain ⟨T, t1, t2, t3, t4⟩ := rec1 (P := P) 6 (wtm P (S 55)) 0 8 0 U (S 55) wl p6 (by omega) (by omega) RU hv eE (fun k hk q => (wtm_tb hv h6 k).mp q)
  have t1 : g105 8 (nI (wtm P (S 55))) (0 : Int32) (0 : Int32) U = some T := t1
  rw [e2, e3] at t4
  have ew : (nI (onm P (S 55)) ^^^ (-1 : Int32)) &&& (((1 : Int32) <<< (nI (pN P) &&& 31)) - (1 : Int32)) = nI (wtm P (S 55)) := by
    have p0 : 0 < 2 ^ pN P := Nat.two_pow_pos _
    rw [nI_sh1 _ (by omega), show (-1 : Int32) = nI 4294967295 from by decide, show (1 : Int32) = nI 1 from rfl, pk_sub (b := 1) p0, nI_xor, nI_and, Nat.and_comm]
    rfl
  have e104 : f104 S1 = some T := by
    unfold f104
    rw [hU, s33 RU eE, Option.bind_some, r_cN RU, ew, t1]
    rfl
  refine ⟨T, ?_, sm_tr q5 (sm_tr s1 t2)⟩
  unfold f103 f108 f109
  rw [q1, Option.bind_some, e104, Option.bind_some, ← t4]
  by_cases z : x = 0
  · rw [if_pos z, if_pos z]
    rfl
  · rw [if_neg z, if_neg z]
    rfl
end
