-- WHAT ONE DOES: enter, walk, say, shift
theorem V_say {g : pg_g} {N F m : Nat} (hv : pg_V g N F) (hm : m < 64) (h6 : N ≤ 6) : pg_V (pu g 6 (nI m)) N F := by
  obtain ⟨v1, v2, v3, v4, v5, v6⟩ := hv
  refine ⟨fun j hj => ?_, fun j h1 h2 => ?_, fun f hf => ?_, ?_, fun i j hi hj ne e => ?_, fun i f hi hf e => ?_⟩
  · rw [pu_ne (by omega)]
    exact v1 j hj
  · rw [pu_ne (by omega)]
    exact v2 j h1 h2
  · rw [pu_ne (by omega)]
    exact v3 f hf
  · rw [pu_eq]
    exact ⟨m, hm, rfl⟩
  · rw [pu_ne (by omega), pu_ne (by omega)] at e
    rw [pu_ne (by omega)]
    exact v5 i j hi hj ne e
  · rw [pu_ne (by omega), pu_ne (by omega)] at e
    exact v6 i f hi hf e
theorem V_sh {g : pg_g} {N F c f : Nat} (hv : pg_V g N F) (h6 : N ≤ 6) (hf : f < F) (hc : c < 18) (h : (frm g N F).testBit c = true) : pg_V (pu g (7 + f) (nI c)) N F := by
  obtain ⟨f1, f2⟩ := fr_no hv h6 hc h
  obtain ⟨v1, v2, v3, v4, v5, v6⟩ := hv
  refine ⟨fun j hj => ?_, fun j h1 h2 => ?_, fun f' hf' => ?_, ?_, fun i j hi hj ne e => ?_, fun i f' hi hf' e => ?_⟩
  · rw [pu_ne (by omega)]
    exact v1 j hj
  · rw [pu_ne (by omega)]
    exact v2 j h1 h2
  · by_cases q : f' = f
    · rw [q, pu_eq]
      exact ⟨c, hc, rfl⟩
    · rw [pu_ne (by omega)]
      exact v3 f' hf'
  · rw [pu_ne (by omega)]
    exact v4
  · rw [pu_ne (by omega), pu_ne (by omega)] at e
    rw [pu_ne (by omega)]
    exact v5 i j hi hj ne e
  · rw [pu_ne (by omega)] at e
    by_cases q : f' = f
    · rw [q, pu_eq] at e
      exact f1 i hi e
    · rw [pu_ne (by omega)] at e
      exact v6 i f' hi hf' e
theorem V_mi {g : pg_g} {N F : Nat} {x : Int32} (hv : pg_V g N F) (h6 : N ≤ 6) (h4 : F ≤ 4) : pg_V (pu g 11 x) N F := by
  obtain ⟨v1, v2, v3, v4, v5, v6⟩ := hv
  refine ⟨fun j hj => ?_, fun j h1 h2 => ?_, fun f hf => ?_, ?_, fun i j hi hj ne e => ?_, fun i f hi hf e => ?_⟩
  · rw [pu_ne (by omega)]
    exact v1 j hj
  · rw [pu_ne (by omega)]
    exact v2 j h1 h2
  · rw [pu_ne (by omega)]
    exact v3 f hf
  · rw [pu_ne (by omega)]
    exact v4
  · rw [pu_ne (by omega), pu_ne (by omega)] at e
    rw [pu_ne (by omega)]
    exact v5 i j hi hj ne e
  · rw [pu_ne (by omega), pu_ne (by omega)] at e
    exact v6 i f hi hf e
/-- where a walk leads, -9 if it can not -/
def wkt (P : pl_T) (g : pg_g) (k w : Nat) : Int32 := if g k ≠ -9 ∧ nxc (ps g k) w ≠ -9 ∧ (pth P g k).testBit (nxc (ps g k) w).toNatClampNeg = true then nxc (ps g k) w else -9
def dmk (P : pl_T) : Nat := mkl (pD P) (dr P)
section
variable {S : ov_S} {P : pl_T} {a : Nat} {g : pg_g} {p : Nat}
theorem wkt_sp (hv : pg_V g (pN P) (pF P)) {k w : Nat} (hk : k < 6) (hw : w < 4) : wkt P g k w = -9 ∨ ∃ n, n < 18 ∧ wkt P g k w = nI n ∧ (frm g (pN P) (pF P)).testBit n = true ∧ g k ≠ -9 := by
  unfold wkt
  by_cases q : g k ≠ -9 ∧ nxc (ps g k) w ≠ -9 ∧ (pth P g k).testBit (nxc (ps g k) w).toNatClampNeg = true
  · rw [if_pos q]
    right
    rcases hv.1 k hk with e | ⟨c, hc, e⟩
    · exact absurd e q.1
    · rw [ps_e hc e] at q ⊢
      rcases (nx_180 c hc w hw).2 with z | ⟨z1, z2⟩
      · exact absurd z q.2.1
      · exact ⟨_, z1, z2, pth_fr q.2.2, q.1⟩
  · rw [if_neg q]
    exact .inl rfl
theorem s74 (h : pl_R S P) (hv : pg_V g (pN P) (pF P)) (he : pg_E S a g (pF P)) {k d : Nat} (hk : k < pN P) (hd : d < pD P) : f74 a S (nI k) (nI d) = some (if g k = -9 ∧ (frm g (pN P) (pF P)).testBit (dr P d) = true then ((1 : Int32), ov_up (ov_up S (a + 1) k (nI (dr P d))) a 4 (S a 4 + 1)) else (0, S)) := by
  have h6 := r_N6 h
  have hc := (r_dr h hd).2
  have fl := frm_lt g (pN P) (pF P)
  unfold f74
  rw [s59 h hd, Option.bind_some, s29 h hk, Option.bind_some, if_neg (by decide), s34 h he hk, Option.bind_some]
  by_cases e : g k = -9
  · rw [show (if g k = -9 then (0 : Int32) else 1) = 0 from if_pos e, if_pos rfl, s53f h hv he, Option.bind_some, s23 (by omega) (by omega), Option.bind_some]
    cases t : (frm g (pN P) (pF P)).testBit (dr P d)
    · rw [if_c0, if_neg (fun q => Bool.noConfusion q.2)]
    · rw [if_c1, if_pos ⟨e, rfl⟩, ov_ck_t (ib_nI (by omega) (by omega)), nI_clamp (by omega), up_n1 (show a ≠ a + 1 by omega)]
  · rw [show (if g k = -9 then (0 : Int32) else 1) = 1 from if_neg e, if_neg (by decide), if_neg (fun q => e q.1)]
theorem s74n (h : pl_R S P) (hv : pg_V g (pN P) (pF P)) (he : pg_E S a g (pF P)) {x y : Int32} (q : (x < 0 ∨ nI (pN P) ≤ x) ∨ ((y < 0 ∨ nI (pD P) ≤ y) ∧ ∃ k, k < pN P ∧ x = nI k)) : f74 a S x y = some (0, S) := by
  have fl := frm_lt g (pN P) (pF P)
  unfold f74
  rcases q with q | ⟨q, k, hk, rfl⟩
  · have : ∃ z, f59 4 S y = some z := by
      rcases pk_ix y (n := pD P) (by have := r_D3 h; omega) with w | w | ⟨j, hj, w⟩
      · exact ⟨_, s59n h (.inl w)⟩
      · exact ⟨_, s59n h (.inr w)⟩
      · rw [w]
        exact ⟨_, s59 h hj⟩
    obtain ⟨z, hz⟩ := this
    rw [hz, Option.bind_some, s29n h q, Option.bind_some, if_pos rfl]
  · rw [s59n h q, Option.bind_some, s29 h hk, Option.bind_some, if_neg (by decide), s34 h he hk, Option.bind_some]
    by_cases e : g k = -9
    · rw [show (if g k = -9 then (0 : Int32) else 1) = 0 from if_pos e, if_pos rfl, s53f h hv he, Option.bind_some, s23n, Option.bind_some, if_pos rfl]
    · rw [show (if g k = -9 then (0 : Int32) else 1) = 1 from if_neg e, if_neg (by decide)]
theorem s79n : ∀ w, w < 10 → f79 (-9) (nI w) = some (-9) := by decide +kernel
theorem s79b : ∀ c, c < 18 → ∀ w, w < 10 → 4 ≤ w → f79 (nI c) (nI w) = some (-9) := by decide +kernel
theorem s78 (h : pl_R S P) (hv : pg_V g (pN P) (pF P)) (he : pg_E S a g (pF P)) {k w : Nat} (hk : k < pN P) (hw : w < 4) : f78 a S (nI k) (nI w) = some (if wkt P g k w = -9 then ((0 : Int32), S) else (1, ov_up (ov_up S (a + 1) k (wkt P g k w)) a 4 (S a 4 + 1))) := by
  have h6 := r_N6 h
  have fl := pth_lt P g k
  unfold f78 wkt
  rw [s35 h he hk, Option.bind_some]
  rcases hv.1 k (by omega) with e | ⟨c, hc, e⟩
  · rw [e, s79n w (by omega), Option.bind_some, s29 h hk, Option.bind_some, if_neg (by decide), s66 h hv he hk, Option.bind_some, s23n, Option.bind_some, if_pos rfl]
    rw [show (if (-9 : Int32) ≠ -9 ∧ nxc (ps g k) w ≠ -9 ∧ (pth P g k).testBit (nxc (ps g k) w).toNatClampNeg = true then nxc (ps g k) w else -9) = -9 from if_neg (fun q => q.1 rfl), if_pos rfl]
  · have e9 : g k ≠ -9 := by rw [e]; exact nI_m9 (by omega)
    obtain ⟨n1, n2⟩ := nx_180 c hc w hw
    rw [ps_e hc e, e, nx_79 c hc w hw, n1, Option.bind_some, s29 h hk, Option.bind_some, if_neg (by decide), s66 h hv he hk, Option.bind_some]
    rw [e] at e9
    rcases n2 with z | ⟨z1, z2⟩
    · rw [z, s23n, Option.bind_some, if_pos rfl]
      rw [show (if nI c ≠ -9 ∧ (-9 : Int32) ≠ -9 ∧ (pth P g k).testBit (-9 : Int32).toNatClampNeg = true then (-9 : Int32) else -9) = -9 from if_neg (fun q => q.2.1 rfl), if_pos rfl]
    · generalize (nxc c w).toNatClampNeg = z at z1 z2 ⊢
      rw [z2, s23 (by omega) (by omega), Option.bind_some]
      cases t : (pth P g k).testBit z
      · rw [if_c0]
        rw [show (if nI c ≠ -9 ∧ nI z ≠ -9 ∧ false = true then nI z else -9) = -9 from if_neg (fun q => Bool.noConfusion q.2.2), if_pos rfl]
      · rw [if_c1, ov_ck_t (ib_nI (by omega) (by omega)), nI_clamp (by omega), up_n1 (show a ≠ a + 1 by omega)]
        rw [show (if nI c ≠ -9 ∧ nI z ≠ -9 ∧ true = true then nI z else -9) = nI z from if_pos ⟨e9, nI_m9 (by omega), rfl⟩, if_neg (nI_m9 (show z < 2 ^ 31 by omega))]
theorem s78n (h : pl_R S P) (hv : pg_V g (pN P) (pF P)) (he : pg_E S a g (pF P)) {k w : Nat} (hk : k < 10) (hw : w < 10) (q : pN P ≤ k ∨ 4 ≤ w) : f78 a S (nI k) (nI w) = some ((0 : Int32), S) := by
  have h6 := r_N6 h
  unfold f78
  by_cases kN : k < pN P
  · have fl := pth_lt P g k
    rw [s35 h he kN, Option.bind_some]
    have : f79 (g k) (nI w) = some (-9) := by
      rcases hv.1 k (by omega) with e | ⟨c, hc, e⟩
      · rw [e]; exact s79n w hw
      · rw [e]; exact s79b c hc w hw (by omega)
    rw [this, Option.bind_some, s29 h kN, Option.bind_some, if_neg (by decide), s66 h hv he kN, Option.bind_some, s23n, Option.bind_some, if_pos rfl]
  · have o : nI k < 0 ∨ nI (pN P) ≤ nI k := .inr (le_nI (by omega) (by omega))
    have : f35 a S (nI k) = some (-9) := by
      unfold f35
      rw [s29n h o, Option.bind_some, if_pos rfl]
    rw [this, Option.bind_some, s79n w hw, Option.bind_some, s29n h o, Option.bind_some, if_pos rfl]
theorem s189 (h : pl_R S P) (hv : pg_V g (pN P) (pF P)) (hm : pg_M S p g) {k w : Nat} (hk : k < pN P) (hw : w < 4) : f189 p S (nI k) (nI w) = some (wkt P g k w) := by
  have h6 := r_N6 h
  have kq := r_kd h hk
  unfold f189 wkt
  rw [zadd, ov_ck_t (ib_nI (by rw [hm.1]; omega) (by rw [hm.1]; omega)), nI_clamp (by omega), hm.2 k (by omega)]
  rcases hv.1 k (by omega) with e | ⟨c, hc, e⟩
  · rw [if_pos e, if_neg (fun q => q.1 e)]
  · have e9 : g k ≠ -9 := by rw [e]; exact nI_m9 (by omega)
    rw [if_neg e9, ov_ck_t (ib_nI (by omega) (by omega)), r_mk h hk]
    by_cases b : kd P k = 1
    · rw [if_pos (show nI (kd P k) = 1 by rw [b]; rfl), if_neg]
      rintro ⟨_, _, q⟩
      unfold pth at q
      rw [if_pos b, Nat.zero_testBit] at q
      cases q
    · rw [if_neg (show ¬ nI (kd P k) = 1 from nI_ne (b := 1) b (by omega) (by omega)), ov_ck_t (ib_nI (by rw [hm.1]; omega) (by rw [hm.1]; omega))]
      obtain ⟨n1, n2⟩ := nx_180 c hc w hw
      rw [ps_e hc e, e, n1, Option.bind_some]
      rw [e] at e9
      rcases n2 with z | ⟨z1, z2⟩
      · rw [if_pos z, if_neg (fun q => q.2.1 z)]
      · generalize (nxc c w).toNatClampNeg = z at z1 z2 ⊢
        rw [z2, if_neg (nI_m9 (show z < 2 ^ 31 by omega)), s186 h hm hv z1, Option.bind_some]
        unfold pth
        rw [if_neg b]
        cases t : (frm g (pN P) (pF P)).testBit z
        · rw [if_c0, if_neg (fun q => Bool.noConfusion q.2.2)]
        · rw [if_c1, if_pos ⟨e9, nI_m9 (by omega), rfl⟩]
theorem hdm_lt (h : pl_R S P) : hdm P g < 2 ^ 6 := Nat.lt_of_lt_of_le (mk_lt _ _) (Nat.pow_le_pow_right (by omega) (r_L6 h))
theorem hdm_out {l : Nat} (hl : pL P ≤ l) : (hdm P g).testBit l = false := by
  unfold hdm
  rw [tb_mk, decide_eq_false (by omega), Bool.false_and]
theorem s81 (h : pl_R S P) (hv : pg_V g (pN P) (pF P)) (he : pg_E S a g (pF P)) {l : Nat} (hl : l < 31) : f81 a S (nI l) = some (if (hdm P g).testBit l then ((1 : Int32), ov_up (ov_up S a 3 (nI (sd g ||| 2 ^ l))) a 4 (S a 4 + 1)) else (0, S)) := by
  have b := hdm_lt (g := g) h
  unfold f81
  rw [s42f h hv he, Option.bind_some, s23 (by omega) (by omega), Option.bind_some]
  cases t : (hdm P g).testBit l
  · rw [if_c0]
    rfl
  · rw [if_c1, he.2.2, (sd_e hv).2, s27 hl, Option.bind_some, up_n2 (show 4 ≠ 3 by decide)]
    rfl
theorem tb_dmk {c : Nat} : (dmk P).testBit c = true ↔ ∃ d, d < pD P ∧ dr P d = c := by
  unfold dmk
  rw [tb_mkl, List.any_eq_true]
  constructor
  · rintro ⟨d, hd, q⟩
    exact ⟨d, List.mem_range.mp hd, by simpa using q⟩
  · rintro ⟨d, hd, q⟩
    exact ⟨d, List.mem_range.mpr hd, by simpa using q⟩
theorem s84 (h : pl_R S P) : f84 4 S = some (nI (dmk P)) := by
  have h3 := r_D3 h
  unfold f84
  refine lp_bind (fun k => (nI (mkl k (dr P)), nI k)) (pD P) (e := nI (mkl (pD P) (dr P))) rfl (fun k hk => ?_) ?_ (by omega) rfl
  · have hc := (r_dr h hk).2
    show b84_4 4 S (nI (mkl k (dr P))) (nI k) = some (.inl (nI (mkl k (dr P) ||| 2 ^ dr P k), nI (k + 1)))
    unfold b84_4
    rw [r_cD h, if_neg (nle_nI hk (by omega)), s59 h hk, Option.bind_some, s24 hc, Option.bind_some, nI_or, nI_1]
  · show b84_4 4 S (nI (mkl (pD P) (dr P))) (nI (pD P)) = _
    unfold b84_4
    rw [r_cD h, if_pos (le_nI (Nat.le_refl _) (by omega))]
theorem s194 (h : pl_R S P) {c : Nat} (hc : c < 18) : f194 S (nI c) = some (if (dmk P).testBit c then 1 else 0) := by
  have h3 := r_D3 h
  unfold f194
  refine lp_bind (fun k => ((if (mkl k (dr P)).testBit c then (1 : Int32) else 0), nI k)) (pD P) (e := if (mkl (pD P) (dr P)).testBit c then (1 : Int32) else 0) (by simp [mkl]; rfl) (fun k hk => ?_) ?_ (by omega) ?_
  · have hdk := (r_dr h hk).2
    show b194_4 S (nI c) (if (mkl k (dr P)).testBit c then (1 : Int32) else 0) (nI k) = some (.inl ((if (mkl k (dr P) ||| 2 ^ dr P k).testBit c then (1 : Int32) else 0), nI (k + 1)))
    unfold b194_4
    rw [r_mD h, if_neg (nle_nI hk (by omega)), Nat.testBit_or, tb_pow]
    cases t : (mkl k (dr P)).testBit c
    · rw [if_c0, ov_ck_t (ib_nI (by omega) (by omega)), nI_clamp (by omega), r_md h hk, Bool.false_or]
      by_cases e : dr P k = c
      · rw [if_pos (by rw [e]), decide_eq_true e]
        show some (Sum.inl ((1 : Int32), nI k + 1)) = _
        rw [nI_1]
        rfl
      · rw [if_neg (nI_ne e (by omega) (by omega)), decide_eq_false e]
        show some (Sum.inl ((0 : Int32), nI k + 1)) = _
        rw [nI_1]
        rfl
    · rw [if_c1, Bool.true_or]
      show some (Sum.inl ((1 : Int32), nI k + 1)) = _
      rw [nI_1]
      rfl
  · show b194_4 S (nI c) (if (mkl (pD P) (dr P)).testBit c then (1 : Int32) else 0) (nI (pD P)) = _
    unfold b194_4
    rw [r_mD h, if_pos (le_nI (Nat.le_refl _) (by omega))]
  · show ov_ck _ _ = some (if (mkl (pD P) (dr P)).testBit c then (1 : Int32) else 0)
    cases (mkl (pD P) (dr P)).testBit c <;> rfl
theorem s83 (h : pl_R S P) (hv : pg_V g (pN P) (pF P)) (he : pg_E S a g (pF P)) {f c : Nat} (hf : f < pF P) (hc : c < 18) : f83 a S (nI f) (nI c) = some (if (frm g (pN P) (pF P)).testBit c = true ∧ (dmk P).testBit c = false then ((1 : Int32), ov_up (ov_up S (a + 2) f (nI c)) a 4 (S a 4 + 1)) else (0, S)) := by
  have h4 := r_F4 h
  have fl := frm_lt g (pN P) (pF P)
  unfold f83
  rw [s7 h hf, Option.bind_some, if_neg (by decide), s53f h hv he, Option.bind_some, s84 h, Option.bind_some, nI_cm, s23 (Nat.lt_of_lt_of_le (cm_lt fl) (by decide)) (by omega), Option.bind_some, tb_cm (Nat.lt_of_lt_of_le fl (by decide))]
  cases t : (frm g (pN P) (pF P)).testBit c
  · rw [Bool.false_and, if_c0, if_neg (fun q => Bool.noConfusion q.1)]
  · cases u : (dmk P).testBit c
    · rw [show (true && !false) = true from rfl, if_c1, if_pos ⟨rfl, rfl⟩, ov_ck_t (ib_nI (by omega) (by omega)), nI_clamp (by omega), up_n1 (show a ≠ a + 2 by omega)]
    · rw [show (true && !true) = false from rfl, if_c0, if_neg (fun q => Bool.noConfusion q.2)]
end
