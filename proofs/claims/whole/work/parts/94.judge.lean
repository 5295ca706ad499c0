-- DOINGS ON TRIAL; CALLS: judge, evenings
abbrev enP (P : pl_T) (g : pg_g) (k t : Nat) : Prop := k < pN P ∧ t < pD P ∧ g k = -9 ∧ (frm g (pN P) (pF P)).testBit (dr P t) = true
abbrev wkP (P : pl_T) (g : pg_g) (k t : Nat) : Prop := k < pN P ∧ t < 4 ∧ wkt P g k t ≠ -9
abbrev saP (P : pl_T) (g : pg_g) (k t : Nat) : Prop := k = 0 ∧ (hdm P g).testBit t = true
def dsg (P : pl_T) (g : pg_g) (w k t : Nat) : Option pg_g :=
  if w = 1 ∧ enP P g k t then some (pu g k (nI (dr P t))) else if w = 2 ∧ wkP P g k t then some (pu g k (wkt P g k t)) else if w = 3 ∧ saP P g k t then some (pu g 6 (nI (sd g ||| 2 ^ t))) else none
theorem dsg_1 {P : pl_T} {g : pg_g} {k t : Nat} (h : enP P g k t) : dsg P g 1 k t = some (pu g k (nI (dr P t))) := if_pos ⟨rfl, h⟩
theorem dsg_1n {P : pl_T} {g : pg_g} {k t : Nat} (h : ¬ enP P g k t) : dsg P g 1 k t = none := by
  unfold dsg
  rw [if_neg (fun q => h q.2), if_neg (fun q => absurd q.1 (by decide)), if_neg (fun q => absurd q.1 (by decide))]
theorem dsg_2 {P : pl_T} {g : pg_g} {k t : Nat} (h : wkP P g k t) : dsg P g 2 k t = some (pu g k (wkt P g k t)) := by
  unfold dsg
  rw [if_neg (fun q => absurd q.1 (by decide)), if_pos ⟨rfl, h⟩]
theorem dsg_2n {P : pl_T} {g : pg_g} {k t : Nat} (h : ¬ wkP P g k t) : dsg P g 2 k t = none := by
  unfold dsg
  rw [if_neg (fun q => absurd q.1 (by decide)), if_neg (fun q => h q.2), if_neg (fun q => absurd q.1 (by decide))]
theorem dsg_3 {P : pl_T} {g : pg_g} {k t : Nat} (h : saP P g k t) : dsg P g 3 k t = some (pu g 6 (nI (sd g ||| 2 ^ t))) := by
  unfold dsg
  rw [if_neg (fun q => absurd q.1 (by decide)), if_neg (fun q => absurd q.1 (by decide)), if_pos ⟨rfl, h⟩]
theorem dsg_3n {P : pl_T} {g : pg_g} {k t : Nat} (h : ¬ saP P g k t) : dsg P g 3 k t = none := by
  unfold dsg
  rw [if_neg (fun q => absurd q.1 (by decide)), if_neg (fun q => absurd q.1 (by decide)), if_neg (fun q => h q.2)]
theorem dsg_0 {P : pl_T} {g : pg_g} {w k t : Nat} (h1 : w ≠ 1) (h2 : w ≠ 2) (h3 : w ≠ 3) : dsg P g w k t = none := by
  unfold dsg
  rw [if_neg (fun q => h1 q.1), if_neg (fun q => h2 q.1), if_neg (fun q => h3 q.1)]
/-- done, or not: answer and page -/
def dok (P : pl_T) (g : pg_g) (w k t : Nat) (r : Int32) (g' : pg_g) : Prop := (dsg P g w k t = some g' ∧ r = 1) ∨ (dsg P g w k t = none ∧ r = 0 ∧ g' = g)
section
variable {S : ov_S} {G : ov_L2} {P : pl_T} {a : Nat} {g : pg_g} {p : Nat}
theorem dsg_v (R : pl_R S P) (hv : pg_V g (pN P) (pF P)) {w k t : Nat} {g' : pg_g} (h : dsg P g w k t = some g') : pg_V g' (pN P) (pF P) := by
  have h6 := r_N6 R
  have hL := r_L6 R
  by_cases h1 : w = 1
  · rw [h1] at h
    by_cases q : enP P g k t
    · rw [dsg_1 q] at h
      rw [← Option.some.inj h]
      exact V_on hv h6 q.1 (r_dr R q.2.1).2 q.2.2.2
    · rw [dsg_1n q] at h
      cases h
  · by_cases h2 : w = 2
    · rw [h2] at h
      by_cases q : wkP P g k t
      · rw [dsg_2 q] at h
        rw [← Option.some.inj h]
        obtain ⟨n, n1, n2, n3, n4⟩ := (wkt_sp (P := P) hv (show k < 6 by have := q.1; omega) q.2.1).resolve_left q.2.2
        rw [n2]
        exact V_on hv h6 q.1 n1 n3
      · rw [dsg_2n q] at h
        cases h
    · by_cases h3 : w = 3
      · rw [h3] at h
        by_cases q : saP P g k t
        · rw [dsg_3 q] at h
          rw [← Option.some.inj h]
          have tl : t < pL P := Classical.byContradiction fun z => by
            have := q.2
            rw [hdm_out (by omega)] at this
            cases this
          exact V_say hv (Nat.or_lt_two_pow (n := 6) (sd_e hv).1 (Nat.pow_lt_pow_right (by omega) (by omega))) h6
        · rw [dsg_3n q] at h
          cases h
      · rw [dsg_0 h1 h2 h3] at h
        cases h
theorem dok_v (R : pl_R S P) (hv : pg_V g (pN P) (pF P)) {w k t : Nat} {r : Int32} {g' : pg_g} (h : dok P g w k t r g') : pg_V g' (pN P) (pF P) := by
  rcases h with ⟨h, _⟩ | ⟨_, _, h⟩
  · exact dsg_v R hv h
  · rw [h]
    exact hv
theorem ent1 (R : pl_R S P) (hv : pg_V g (pN P) (pF P)) (he : pg_E S 21 g (pF P)) {k t : Nat} (hk : k < 10) (ht : t < 10) : ∃ r T g', f74 21 S (nI k) (nI t) = some (r, T) ∧ ag [21, 22] S T ∧ pg_E T 21 g' (pF P) ∧ dok P g 1 k t r g' := by
  have h6 := r_N6 R
  have h3 := r_D3 R
  by_cases kN : k < pN P
  · by_cases tD : t < pD P
    · rw [s74 R hv he kN tD]
      by_cases q : g k = -9 ∧ (frm g (pN P) (pF P)).testBit (dr P t) = true
      · rw [if_pos q]
        exact ⟨_, _, _, rfl, ag_tr (ag_up (by decide)) (ag_up (by decide)), E_mi (E_pu (by omega) he), .inl ⟨dsg_1 ⟨kN, tD, q.1, q.2⟩, rfl⟩⟩
      · rw [if_neg q]
        exact ⟨_, _, g, rfl, ag_rf, he, .inr ⟨dsg_1n (fun z => q ⟨z.2.2.1, z.2.2.2⟩), rfl, rfl⟩⟩
    · rw [s74n R hv he (.inr ⟨.inr (le_nI (by omega) (by omega)), k, kN, rfl⟩)]
      exact ⟨_, _, g, rfl, ag_rf, he, .inr ⟨dsg_1n (fun z => tD z.2.1), rfl, rfl⟩⟩
  · rw [s74n R hv he (.inl (.inr (le_nI (by omega) (by omega))))]
    exact ⟨_, _, g, rfl, ag_rf, he, .inr ⟨dsg_1n (fun z => kN z.1), rfl, rfl⟩⟩
theorem wal1 (R : pl_R S P) (hv : pg_V g (pN P) (pF P)) (he : pg_E S 21 g (pF P)) {k t : Nat} (hk : k < 10) (ht : t < 10) : ∃ r T g', f78 21 S (nI k) (nI t) = some (r, T) ∧ ag [21, 22] S T ∧ pg_E T 21 g' (pF P) ∧ dok P g 2 k t r g' := by
  have h6 := r_N6 R
  by_cases kN : k < pN P
  · by_cases t4 : t < 4
    · rw [s78 R hv he kN t4]
      by_cases q : wkt P g k t = -9
      · rw [if_pos q]
        exact ⟨_, _, g, rfl, ag_rf, he, .inr ⟨dsg_2n (fun z => z.2.2 q), rfl, rfl⟩⟩
      · rw [if_neg q]
        exact ⟨_, _, _, rfl, ag_tr (ag_up (by decide)) (ag_up (by decide)), E_mi (E_pu (by omega) he), .inl ⟨dsg_2 ⟨kN, t4, q⟩, rfl⟩⟩
    · rw [s78n R hv he hk ht (.inr (by omega))]
      exact ⟨_, _, g, rfl, ag_rf, he, .inr ⟨dsg_2n (fun z => t4 z.2.1), rfl, rfl⟩⟩
  · rw [s78n R hv he hk ht (.inl (by omega))]
    exact ⟨_, _, g, rfl, ag_rf, he, .inr ⟨dsg_2n (fun z => kN z.1), rfl, rfl⟩⟩
theorem dok_b {w k t : Nat} {r : Int32} {g' : pg_g} (h : dok P g w k t r g') : ov_b01 r = true := by
  rcases h with ⟨_, h⟩ | ⟨_, h, _⟩ <;> (rw [h]; rfl)
theorem s117 (R : pl_R S P) (hv : pg_V g (pN P) (pF P)) (he : pg_E S 21 g (pF P)) {w k t : Nat} (hw : w < 10) (hk : k < 10) (ht : t < 10) : ∃ r T g', f117 21 S (nI w) (nI k) (nI t) = some (r, T) ∧ ag [21, 22] S T ∧ pg_E T 21 g' (pF P) ∧ dok P g w k t r g' := by
  unfold f117
  by_cases h1 : w = 1
  · subst h1
    rw [if_pos (show nI 1 = 1 from rfl)]
    obtain ⟨r, T, g', q1, q2, q3, q4⟩ := ent1 R hv he hk ht
    rw [q1, Option.bind_some]
    dsimp only
    rw [ov_ck_t (dok_b q4)]
    exact ⟨r, T, g', rfl, q2, q3, q4⟩
  · rw [if_neg (show ¬ nI w = 1 from nI_ne (b := 1) h1 (by omega) (by omega))]
    by_cases h2 : w = 2
    · subst h2
      rw [if_pos (show nI 2 = 2 from rfl)]
      obtain ⟨r, T, g', q1, q2, q3, q4⟩ := wal1 R hv he hk ht
      rw [q1, Option.bind_some]
      dsimp only
      rw [ov_ck_t (dok_b q4)]
      exact ⟨r, T, g', rfl, q2, q3, q4⟩
    · rw [if_neg (show ¬ nI w = 2 from nI_ne (b := 2) h2 (by omega) (by omega))]
      by_cases h3 : w = 3
      · subst h3
        rw [if_pos (show nI 3 = 3 from rfl)]
        by_cases k0 : k = 0
        · rw [if_pos (by rw [k0]; rfl), s81 R hv he (by omega)]
          by_cases q : (hdm P g).testBit t = true
          · rw [if_pos q, Option.bind_some]
            exact ⟨1, _, _, rfl, ag_tr (ag_up (by decide)) (ag_up (by decide)), E_mi (E_sd he), .inl ⟨dsg_3 ⟨k0, q⟩, rfl⟩⟩
          · rw [if_neg q, Option.bind_some]
            exact ⟨0, _, g, rfl, ag_rf, he, .inr ⟨dsg_3n (fun z => q z.2), rfl, rfl⟩⟩
        · rw [if_neg (fun q => k0 ((nI_z (by omega)).mp q))]
          exact ⟨0, _, g, rfl, ag_rf, he, .inr ⟨dsg_3n (fun z => k0 z.1), rfl, rfl⟩⟩
      · rw [if_neg (show ¬ nI w = 3 from nI_ne (b := 3) h3 (by omega) (by omega))]
        exact ⟨0, _, g, rfl, ag_rf, he, .inr ⟨dsg_0 h1 h2 h3, rfl, rfl⟩⟩
theorem s210_128 {w k t : Nat} (hw : w ≠ 3) (hw2 : w < 10) : f210_128 S (nI w) (nI k) (nI t) = some (0, S) := by
  unfold f210_128
  rw [if_neg (show ¬ nI w = 3 from nI_ne (b := 3) hw (by omega) (by omega))]
theorem s210_72 {w k t : Nat} (hw : w ≠ 2) (hw2 : w < 10) : f210_72 S (nI w) (nI k) (nI t) = f210_128 S (nI w) (nI k) (nI t) := by
  unfold f210_72
  rw [if_neg (show ¬ nI w = 2 from nI_ne (b := 2) hw (by omega) (by omega))]
theorem s210 (R : pl_R S P) (hv : pg_V g (pN P) (pF P)) (hm : pg_M S 56 g) {x w k t : Nat} (hw : w < 10) (hk : k < 10) (ht : t < 10) (ex : x = 100 * w + 10 * k + t) : ∃ r T g', f210 S (nI x) = some (r, T) ∧ ag [56] S T ∧ pg_M T 56 g' ∧ dok P g w k t r g' := by
  have h6 := r_N6 R
  have h3 := r_D3 R
  have hL := r_L6 R
  have d1 : nI x / (100 : Int32) = nI w := by
    rw [show (100 : Int32) = nI 100 from rfl, pk_div (by omega) (by omega) (by omega)]
    congr 1
    omega
  have d2 : nI x / (10 : Int32) - nI x / (10 : Int32) / (10 : Int32) * (10 : Int32) = nI k := by
    rw [show (10 : Int32) = nI 10 from rfl, pk_div (by omega) (by omega) (by omega), pk_rem (by omega) (by omega) (by omega)]
    congr 1
    omega
  have d3 : nI x - nI x / (10 : Int32) * (10 : Int32) = nI t := by
    rw [show (10 : Int32) = nI 10 from rfl, pk_rem (by omega) (by omega) (by omega)]
    congr 1
    omega
  unfold f210
  rw [d1, d2, d3]
  by_cases h1 : w = 1
  · subst h1
    have no : ¬ enP P g k t → ∃ r T g', f210_72 S (nI 1) (nI k) (nI t) = some (r, T) ∧ ag [56] S T ∧ pg_M T 56 g' ∧ dok P g 1 k t r g' := fun q => by
      rw [s210_72 (by decide) (by decide), s210_128 (by decide) (by decide)]
      exact ⟨_, _, g, rfl, ag_rf, hm, .inr ⟨dsg_1n q, rfl, rfl⟩⟩
    rw [if_pos (show nI 1 = 1 from rfl)]
    by_cases kN : k < pN P
    · rw [s175 R kN, Option.bind_some, if_pos rfl]
      by_cases tD : t < pD P
      · rw [s172 R tD, Option.bind_some, if_pos rfl, s185 R hv hm kN tD]
        by_cases q : g k = -9 ∧ (frm g (pN P) (pF P)).testBit (dr P t) = true
        · rw [if_pos q, Option.bind_some, if_neg (by decide), ov_ck_t (ib_nI (by omega) (by omega)), zadd, ov_ck_t (ib_nI (by omega) (by omega)), nI_clamp (by omega), nI_clamp (by omega), r_md R tD]
          exact ⟨_, _, _, rfl, ag_up (by decide), M_pu hm, .inl ⟨dsg_1 ⟨kN, tD, q.1, q.2⟩, rfl⟩⟩
        · rw [if_neg q, Option.bind_some, if_pos rfl]
          exact no (fun z => q ⟨z.2.2.1, z.2.2.2⟩)
      · rw [s172n R (.inr (le_nI (by omega) (by omega))), Option.bind_some, if_neg (by decide)]
        exact no (fun z => tD z.2.1)
    · rw [s175n R (.inr (le_nI (by omega) (by omega))), Option.bind_some, if_neg (by decide)]
      exact no (fun z => kN z.1)
  · rw [if_neg (show ¬ nI w = 1 from nI_ne (b := 1) h1 (by omega) (by omega))]
    by_cases h2 : w = 2
    · subst h2
      have no : ¬ wkP P g k t → ∃ r T g', f210_128 S (nI 2) (nI k) (nI t) = some (r, T) ∧ ag [56] S T ∧ pg_M T 56 g' ∧ dok P g 2 k t r g' := fun q => by
        rw [s210_128 (by decide) (by decide)]
        exact ⟨_, _, g, rfl, ag_rf, hm, .inr ⟨dsg_2n q, rfl, rfl⟩⟩
      unfold f210_72
      rw [if_pos (show nI 2 = 2 from rfl)]
      by_cases kN : k < pN P
      · rw [s175 R kN, Option.bind_some, if_pos rfl]
        by_cases t4 : t < 4
        · rw [if_neg (show ¬ (4 : Int32) ≤ nI t from nle_nI (a := 4) t4 (by omega)), s189 R hv hm kN t4, Option.bind_some]
          by_cases q : wkt P g k t = -9
          · rw [if_pos q]
            exact no (fun z => z.2.2 q)
          · rw [if_neg q, Option.bind_some, zadd, ov_ck_t (ib_nI (by omega) (by omega)), nI_clamp (by omega)]
            exact ⟨_, _, _, rfl, ag_up (by decide), M_pu hm, .inl ⟨dsg_2 ⟨kN, t4, q⟩, rfl⟩⟩
        · rw [if_pos (show (4 : Int32) ≤ nI t from le_nI (a := 4) (by omega) (by omega))]
          exact no (fun z => t4 z.2.1)
      · rw [s175n R (.inr (le_nI (by omega) (by omega))), Option.bind_some, if_neg (by decide)]
        exact no (fun z => kN z.1)
    · rw [s210_72 h2 hw]
      by_cases h3 : w = 3
      · subst h3
        have no : ¬ saP P g k t → ∃ r T g', some ((0 : Int32), S) = some (r, T) ∧ ag [56] S T ∧ pg_M T 56 g' ∧ dok P g 3 k t r g' := fun q => ⟨_, _, g, rfl, ag_rf, hm, .inr ⟨dsg_3n q, rfl, rfl⟩⟩
        unfold f210_128
        rw [if_pos (show nI 3 = 3 from rfl)]
        by_cases k0 : k = 0
        · rw [if_pos (by rw [k0]; rfl), r_mL R]
          by_cases tL : t < pL P
          · rw [if_neg (nle_nI tL (by omega)), s164 R hv hm tL, Option.bind_some]
            by_cases q : (hdm P g).testBit t = true
            · have e6 : S 56 ((6 : Int32)).toNatClampNeg = nI (sd g) := by
                rw [← (sd_e hv).2]
                exact hm.2 6 (by omega)
              rw [if_pos q, if_neg (by decide), e6, nI_sh1 t (by omega), nI_or]
              exact ⟨_, _, _, rfl, ag_up (by decide), M_pu hm, .inl ⟨dsg_3 ⟨k0, q⟩, rfl⟩⟩
            · rw [if_neg q, if_pos rfl]
              exact no (fun z => q z.2)
          · rw [if_pos (le_nI (by omega) (by omega))]
            exact no (fun z => by
              have := z.2
              rw [hdm_out (by omega)] at this
              cases this)
        · rw [if_neg (fun q => k0 ((nI_z (by omega)).mp q))]
          exact no (fun z => k0 z.1)
      · rw [s210_128 h3 hw]
        exact ⟨_, _, g, rfl, ag_rf, hm, .inr ⟨dsg_0 h1 h2 h3, rfl, rfl⟩⟩
theorem dok_u {w k t : Nat} {r r' : Int32} {g1 g2 : pg_g} (h : dok P g w k t r g1) (h2 : dok P g w k t r' g2) : r = r' ∧ g1 = g2 := by
  rcases h with ⟨a1, a2⟩ | ⟨a1, a2, a3⟩
  · rcases h2 with ⟨b1, b2⟩ | ⟨b1, b2, b3⟩
    · rw [a1] at b1
      exact ⟨a2.trans b2.symm, Option.some.inj b1⟩
    · rw [a1] at b1
      cases b1
  · rcases h2 with ⟨b1, b2⟩ | ⟨b1, b2, b3⟩
    · rw [a1] at b1
      cases b1
    · exact ⟨a2.trans b2.symm, a3.trans b3.symm⟩
end
-- longs
theorem lc_neg (x : Int64) (m : Nat) (hm : m < 2 ^ 63) : lg_cmp x (lN m) < 0 ↔ x < lN m := by
  unfold lg_cmp
  by_cases h1 : lN m < x
  · rw [if_pos h1]
    constructor
    · intro q
      exact absurd q (by decide)
    · intro q
      exact absurd (Int64.lt_trans h1 q) (Int64.lt_irrefl)
  · rw [if_neg h1]
    by_cases h2 : x = lN m
    · rw [if_pos h2]
      constructor
      · intro q
        exact absurd q (by decide)
      · intro q
        rw [h2] at q
        exact absurd q (Int64.lt_irrefl)
    · rw [if_neg h2]
      constructor
      · intro _
        rw [Int64.lt_iff_toInt_lt] at h1 ⊢
        have : x.toInt ≠ (lN m).toInt := fun q => h2 (Int64.toInt_inj.mp q)
        omega
      · intro _
        decide
theorem lc_pos (x : Int64) (m : Nat) : 0 < lg_cmp x (lN m) ↔ lN m < x := by
  unfold lg_cmp
  by_cases h1 : lN m < x
  · rw [if_pos h1]
    exact ⟨fun _ => h1, fun _ => by decide⟩
  · rw [if_neg h1]
    constructor
    · intro q
      split at q
      · exact absurd q (by decide)
      · exact absurd q (by decide)
    · intro q
      exact absurd q h1
theorem s144L (x : Int64) {m : Nat} (h0 : 0 < m) (hm : m < 2 ^ 62) : f144 x (0 : Int64) (lN m - (1 : Int64)) = some (if lg_cmp x (0 : Int64) < 0 then 0 else if lg_cmp x (lN m) < 0 then 1 else 0) := by
  have e1 : lN m - (1 : Int64) = lN (m - 1) := lN_sub (b := 1) h0
  rw [e1]
  unfold f144
  by_cases q : lg_cmp x (0 : Int64) < 0
  · rw [if_pos q, if_pos q]
  · rw [if_neg q, if_neg q]
    have iff : 0 < lg_cmp x (lN (m - 1)) ↔ ¬ lg_cmp x (lN m) < 0 := by
      rw [lc_pos, lc_neg x m (by omega), Int64.lt_iff_toInt_lt, Int64.lt_iff_toInt_lt, pk_lT (by omega), pk_lT (by omega)]
      omega
    by_cases z : lg_cmp x (lN m) < 0
    · rw [if_pos z, if_neg (fun y => iff.mp y z)]
    · rw [if_neg z, if_pos (iff.mpr z)]
theorem f115_t : ∀ n, n < 5 → f115 (1000 : Int32) (nI n) = some (lN (1000 ^ n)) := by decide +kernel
theorem f209_t : ∀ n, n < 5 → f209 (1000 : Int64) (nI n) = some (lN (1000 ^ n)) := by decide +kernel
theorem s116 {r : Nat} (hr : r < 2 ^ 62) {j : Nat} (hj : j < 100) : f116 (lN r) (nI j) = some (nI (r / 1000 ^ j % 1000)) := by
  unfold f116
  have L : ov_lp (fun s => b116_5 (nI j) s.1 s.2) 2000 (lN r, (0 : Int32)) = some (lN (r / 1000 ^ j)) := by
    refine lp_for (fun i => (lN (r / 1000 ^ i), nI i)) j (by simp; rfl) (fun i hi => ?_) ?_ (by omega)
    · show b116_5 (nI j) (lN (r / 1000 ^ i)) (nI i) = some (.inl (lN (r / 1000 ^ (i + 1)), nI (i + 1)))
      have := Nat.div_le_self r (1000 ^ i)
      unfold b116_5
      rw [if_neg (nle_nI hi (by omega)), show (1000 : Int64) = lN 1000 from rfl, pk_lDiv (by omega) (by omega) (by omega), nI_1, Nat.div_div_eq_div_mul, Nat.pow_succ]
    · show b116_5 (nI j) _ (nI j) = _
      unfold b116_5
      rw [if_pos (le_nI (Nat.le_refl _) (by omega))]
  have := Nat.div_le_self r (1000 ^ j)
  rw [L, Option.bind_some, show (1000 : Int64) = lN 1000 from rfl, pk_lRem (by omega) (by omega) (by omega), lN_i]
/-- the doings one after the other -/
def jf (r n i : Nat) : Nat := r / 1000 ^ (n - 1 - i) % 1000
def jrs (P : pl_T) (r n : Nat) : Nat → Nat → pg_g → Int32
  | 0, _, _ => -9
  | f + 1, i, g => match dsg P g (jf r n i / 100) (jf r n i / 10 % 10) (jf r n i % 10) with
    | some g' => jrs P r n f (i + 1) g'
    | none => nI i
theorem jrs_s {P : pl_T} {r n f i : Nat} {g g' : pg_g} (h : dsg P g (jf r n i / 100) (jf r n i / 10 % 10) (jf r n i % 10) = some g') : jrs P r n (f + 1) i g = jrs P r n f (i + 1) g' := by
  show (match dsg P g (jf r n i / 100) (jf r n i / 10 % 10) (jf r n i % 10) with | some g' => jrs P r n f (i + 1) g' | none => nI i) = _
  rw [h]
theorem jrs_n {P : pl_T} {r n f i : Nat} {g : pg_g} (h : dsg P g (jf r n i / 100) (jf r n i / 10 % 10) (jf r n i % 10) = none) : jrs P r n (f + 1) i g = nI i := by
  show (match dsg P g (jf r n i / 100) (jf r n i / 10 % 10) (jf r n i % 10) with | some g' => jrs P r n f (i + 1) g' | none => nI i) = _
  rw [h]
theorem jf_lt (r n i : Nat) : jf r n i < 1000 := Nat.mod_lt _ (by decide)
theorem nI_sb {n i : Nat} (h : i < n) : nI n - (1 : Int32) - nI i = nI (n - 1 - i) := by
  rw [show (1 : Int32) = nI 1 from rfl, pk_sub (by omega), pk_sub (by omega)]
section
variable {S : ov_S} {G : ov_L2} {P : pl_T} {a : Nat} {g : pg_g} {p : Nat}
theorem sc_22 : ∀ i, i ∈ [21, 22] → ∀ j, sc_R i j = true := by
  intro i hi j
  simp only [List.mem_cons, List.not_mem_nil, or_false] at hi
  rcases hi with rfl | rfl <;> rfl
theorem jl1 {r n : Nat} (hr : r < 2 ^ 62) (hn : n < 5) : ∀ f i N (T : ov_S) (g : pg_g), i + f = n → f < N → pl_R T P → pg_V g (pN P) (pF P) → pg_E T 21 g (pF P) → ∃ e T', ov_lp (fun s => b114_45 (nI n) (lN r) s.1 s.2) N (nI i, T) = some e ∧ sm_S T T' ∧ ((e = .inl T' ∧ jrs P r n f i g = -9) ∨ e = .inr (jrs P r n f i g, T'))
  | 0, i, N, T, g, hi, hN, R, hv, he => by
    refine ⟨.inl T, T, ?_, sm_rf, .inl ⟨rfl, rfl⟩⟩
    obtain ⟨M, rfl⟩ : ∃ M, N = M + 1 := ⟨N - 1, by omega⟩
    apply lp_stop
    show b114_45 (nI n) (lN r) (nI i) T = _
    unfold b114_45
    rw [if_pos (le_nI (by omega) (by omega))]
  | f + 1, i, N, T, g, hi, hN, R, hv, he => by
    obtain ⟨M, rfl⟩ : ∃ M, N = M + 1 := ⟨N - 1, by omega⟩
    have jl := jf_lt r n i
    obtain ⟨q, T1, g1, t1, t2, t3, t4⟩ := s117 (P := P) R hv he (w := jf r n i / 100) (k := jf r n i / 10 % 10) (t := jf r n i % 10) (by omega) (by omega) (by omega)
    have s1 : sm_S T T1 := sm_ag t2 sc_22
    have b : b114_45 (nI n) (lN r) (nI i) T = (if q = 0 then some (.inr (.inr (nI i, T1))) else some (.inl (nI (i + 1), T1))) := by
      unfold b114_45
      rw [if_neg (nle_nI (by omega) (by omega)), nI_sb (by omega), s116 hr (by omega), Option.bind_some]
      show (f117 21 T (nI (jf r n i) / 100) _ _).bind _ = _
      have d1 : nI (jf r n i) / (100 : Int32) = nI (jf r n i / 100) := by rw [show (100 : Int32) = nI 100 from rfl, pk_div (by omega) (by omega) (by omega)]
      have d2 : nI (jf r n i) / (10 : Int32) - nI (jf r n i) / (10 : Int32) / (10 : Int32) * (10 : Int32) = nI (jf r n i / 10 % 10) := by rw [show (10 : Int32) = nI 10 from rfl, pk_div (by omega) (by omega) (by omega), pk_rem (by omega) (by omega) (by omega)]
      have d3 : nI (jf r n i) - nI (jf r n i) / (10 : Int32) * (10 : Int32) = nI (jf r n i % 10) := by rw [show (10 : Int32) = nI 10 from rfl, pk_rem (by omega) (by omega) (by omega)]
      show (f117 21 T (nI (jf r n i) / 100) (nI (jf r n i) / (10 : Int32) - nI (jf r n i) / (10 : Int32) / (10 : Int32) * (10 : Int32)) (nI (jf r n i) - nI (jf r n i) / (10 : Int32) * (10 : Int32))).bind _ = _
      rw [d1, d2, d3, t1, Option.bind_some, nI_1]
    rcases t4 with ⟨z1, z2⟩ | ⟨z1, z2, z3⟩
    · rw [z2, if_neg (by decide)] at b
      rw [lp_go (body := fun s => b114_45 (nI n) (lN r) s.1 s.2) b, jrs_s z1]
      obtain ⟨e, T2, y1, y2, y3⟩ := jl1 hr hn f (i + 1) M T1 g1 (by omega) (by omega) (r_sm R s1) (dsg_v R hv z1) t3
      exact ⟨e, T2, y1, sm_tr s1 y2, y3⟩
    · rw [z2, if_pos rfl] at b
      refine ⟨_, T1, lp_stop (body := fun s => b114_45 (nI n) (lN r) s.1 s.2) b, s1, .inr ?_⟩
      rw [jrs_n z1]
theorem jl2 {r n : Nat} (hr : r < 2 ^ 62) (hn : n < 5) : ∀ f i N (T : ov_S) (g : pg_g), i + f = n → f < N → pl_R T P → pg_V g (pN P) (pF P) → pg_M T 56 g → ∃ e T', ov_lp (fun s => b208_53 (nI n) (lN r) s.1 s.2) N (nI i, T) = some e ∧ sm_S T T' ∧ ((e = .inl T' ∧ jrs P r n f i g = -9) ∨ e = .inr (jrs P r n f i g, T'))
  | 0, i, N, T, g, hi, hN, R, hv, he => by
    refine ⟨.inl T, T, ?_, sm_rf, .inl ⟨rfl, rfl⟩⟩
    obtain ⟨M, rfl⟩ : ∃ M, N = M + 1 := ⟨N - 1, by omega⟩
    apply lp_stop
    show b208_53 (nI n) (lN r) (nI i) T = _
    unfold b208_53
    rw [if_pos (le_nI (by omega) (by omega))]
  | f + 1, i, N, T, g, hi, hN, R, hv, he => by
    obtain ⟨M, rfl⟩ : ∃ M, N = M + 1 := ⟨N - 1, by omega⟩
    have jl := jf_lt r n i
    obtain ⟨q, T1, g1, t1, t2, t3, t4⟩ := s210 (P := P) R hv he (x := jf r n i) (w := jf r n i / 100) (k := jf r n i / 10 % 10) (t := jf r n i % 10) (by omega) (by omega) (by omega) (by omega)
    have s1 : sm_S T T1 := sm_ag t2 (fun i hi j => by rw [List.mem_singleton.mp hi]; rfl)
    have b : b208_53 (nI n) (lN r) (nI i) T = (if q = 0 then some (.inr (.inr (nI i, T1))) else some (.inl (nI (i + 1), T1))) := by
      have dl := Nat.div_le_self r (1000 ^ (n - 1 - i))
      have pp : 1000 ^ (n - 1 - i) ≤ 1000 ^ 4 := Nat.pow_le_pow_right (by decide) (by omega)
      have p0 : 0 < 1000 ^ (n - 1 - i) := Nat.pow_pos (by decide)
      have nz : ov_nzl (lN (1000 ^ (n - 1 - i))) = true := by
        unfold ov_nzl
        have : ¬ lN (1000 ^ (n - 1 - i)) = 0 := fun y => by
          have := (pk_lEQ (a := 1000 ^ (n - 1 - i)) (b := 0) (by omega) (by omega)).mp y
          omega
        rw [decide_eq_false this]
        rfl
      unfold b208_53
      rw [if_neg (nle_nI (by omega) (by omega)), nI_sb (by omega), f209_t _ (by omega), Option.bind_some, ov_ck_t nz, pk_lDiv (by omega) p0 (by omega), show (1000 : Int64) = lN 1000 from rfl, pk_lRem (by omega) (by omega) (by omega), lN_i]
      show (f210 T (nI (jf r n i))).bind _ = _
      rw [t1, Option.bind_some, nI_1]
    rcases t4 with ⟨z1, z2⟩ | ⟨z1, z2, z3⟩
    · rw [z2, if_neg (by decide)] at b
      rw [lp_go (body := fun s => b208_53 (nI n) (lN r) s.1 s.2) b, jrs_s z1]
      obtain ⟨e, T2, y1, y2, y3⟩ := jl2 hr hn f (i + 1) M T1 g1 (by omega) (by omega) (r_sm R s1) (dsg_v R hv z1) t3
      exact ⟨e, T2, y1, sm_tr s1 y2, y3⟩
    · rw [z2, if_pos rfl] at b
      refine ⟨_, T1, lp_stop (body := fun s => b208_53 (nI n) (lN r) s.1 s.2) b, s1, .inr ?_⟩
      rw [jrs_n z1]
theorem c_judge (h : in_P S G P) (x : Int32) (y : Int64) : ok2 S G (f114 S x y) (fun T => f208 T x y) := by
  have R := h.2.1
  have hv := h.2.2.1.1
  have e144 : ∀ z : Int32, f144 z.toInt64 (1 : Int64) (4 : Int64) = some (if (1 : Int32) ≤ z ∧ z ≤ (4 : Int32) then 1 else 0) := fun z => s144 z 1 4
  have bad : ∀ (hc : f114 S x y = some (-2, S)) (hm : f208 S x y = some (-2, ov_up S 42 0 0)), ok2 S G (f114 S x y) (fun T => f208 T x y) := fun hc hm => o2 h sm_rf sm0 (-2) hc hm
  by_cases h1 : x < 1
  · refine bad ?_ ?_
    · unfold f114
      rw [if_pos h1]
    · unfold f208
      rw [e144, if_neg (fun q => absurd q.1 (Int32.not_le.mpr h1))]
      rfl
  by_cases h4 : (4 : Int32) < x
  · refine bad ?_ ?_
    · unfold f114
      rw [if_neg h1, if_pos h4]
    · unfold f208
      rw [e144, if_neg (fun q => absurd q.2 (Int32.not_le.mpr h4))]
      rfl
  obtain ⟨n, hn, rfl⟩ : ∃ n, n < 5 ∧ x = nI n := by
    rcases pk_ix x (n := 5) (by omega) with q | q | q
    · exfalso
      rw [Int32.lt_iff_toInt_lt] at q h1
      have : (1 : Int32).toInt = 1 := by decide
      have : (0 : Int32).toInt = 0 := by decide
      omega
    · exfalso
      rw [Int32.le_iff_toInt_le, nI_toInt (by omega)] at q
      rw [Int32.lt_iff_toInt_lt] at h4
      have : (4 : Int32).toInt = 4 := by decide
      omega
    · exact q
  have in14 : (1 : Int32) ≤ nI n ∧ nI n ≤ (4 : Int32) := ⟨Int32.not_lt.mp h1, Int32.not_lt.mp h4⟩
  have p0 : 0 < 1000 ^ n := Nat.pow_pos (by decide)
  have pp : 1000 ^ n ≤ 1000 ^ 4 := Nat.pow_le_pow_right (by decide) (by omega)
  have c1 : f114 S (nI n) y = (if lg_cmp y (0 : Int64) < 0 then some ((-2 : Int32), S) else (if lg_cmp y (lN (1000 ^ n)) < 0 then (f97 21 18 S).bind fun y2 => ((ov_lp (fun s => b114_45 (nI n) y s.1 s.2) 2000 ((0 : Int32), y2)).bind fun e7 => match e7 with | .inl e8 => some ((-9 : Int32), e8) | .inr t => some t) else some ((-2 : Int32), S))) := by
    unfold f114
    rw [if_neg h1, if_neg h4, f115_t n hn]
    rfl
  have c2 : ∀ T : ov_S, f208 T (nI n) y = (if (if lg_cmp y (0 : Int64) < 0 then (0 : Int32) else if lg_cmp y (lN (1000 ^ n)) < 0 then 1 else 0) = 0 then some ((-2 : Int32), (ov_up T 42 0 (0 : Int32))) else (f158 55 56 (ov_up T 42 0 (0 : Int32)) (12 : Int32)).bind fun y6 => ((ov_lp (fun s => b208_53 (nI n) y s.1 s.2) 2000 ((0 : Int32), y6)).bind fun e14 => match e14 with | .inl e15 => some ((-9 : Int32), e15) | .inr t => some t)) := by
    intro T
    unfold f208
    rw [e144, if_pos in14, Option.bind_some, if_neg (by decide), f209_t n hn, Option.bind_some, s144L y p0 (by omega), Option.bind_some]
    rfl
  by_cases y0 : lg_cmp y (0 : Int64) < 0
  · refine bad ?_ ?_
    · rw [c1, if_pos y0]
    · rw [c2, if_pos y0]
      rfl
  by_cases ym : lg_cmp y (lN (1000 ^ n)) < 0
  · rw [if_neg y0, if_pos ym] at c1
    have c2 : ∀ T : ov_S, f208 T (nI n) y = (f158 55 56 (ov_up T 42 0 (0 : Int32)) (12 : Int32)).bind fun y6 => ((ov_lp (fun s => b208_53 (nI n) y s.1 s.2) 2000 ((0 : Int32), y6)).bind fun e14 => match e14 with | .inl e15 => some ((-9 : Int32), e15) | .inr t => some t) := fun T => by
      rw [c2 T, if_neg y0, if_pos ym, if_neg (by decide)]
    have yn : ¬ y < 0 := fun q => y0 ((lc_neg y 0 (by omega)).mpr q)
    obtain ⟨r, r1, rfl⟩ := pk_lOf yn
    have rl : r < 1000 ^ n := (pk_lLT r1 (by omega)).mp ((lc_neg _ _ (by omega)).mp ym)
    obtain ⟨S1, q1, q2, q3, q4, q5⟩ := tc_go h
    obtain ⟨e, T1, t1, t2, t3⟩ := jl1 (P := P) (r := r) (n := n) (by omega) hn n 0 2000 S1 (S 55) (by omega) (by omega) q4 hv q3
    have t1 : ov_lp (fun s => b114_45 (nI n) (lN r) s.1 s.2) 2000 ((0 : Int32), S1) = some e := t1
    have d1 : f114 S (nI n) (lN r) = some (jrs P r n n 0 (S 55), T1) := by
      rw [c1, q1, Option.bind_some, t1, Option.bind_some]
      rcases t3 with ⟨rfl, z⟩ | rfl
      · rw [z]
      · rfl
    have s1 := sm_tr q5 t2
    have s2 := sm_tr s1 (sm0 (S := T1))
    have e55 : (ov_up T1 42 0 0) 55 = S 55 := funext fun j => s2 55 j rfl
    obtain ⟨T2, u1, u2, u3, u4, u5⟩ := mc_go (r_sm R s2) e55
    obtain ⟨e', T3, v1, v2, v3⟩ := jl2 (P := P) (r := r) (n := n) (by omega) hn n 0 2000 T2 (S 55) (by omega) (by omega) u4 hv u3
    have v1 : ov_lp (fun s => b208_53 (nI n) (lN r) s.1 s.2) 2000 ((0 : Int32), T2) = some e' := v1
    have d2 : f208 T1 (nI n) (lN r) = some (jrs P r n n 0 (S 55), T3) := by
      rw [c2, u1, Option.bind_some, v1, Option.bind_some]
      rcases v3 with ⟨rfl, z⟩ | rfl
      · rw [z]
      · rfl
    exact o2 h s1 (sm_tr sm0 (sm_tr u5 v2)) _ d1 d2
  · refine bad ?_ ?_
    · rw [c1, if_neg y0, if_neg ym]
    · rw [c2, if_neg y0, if_neg ym]
      rfl
end
