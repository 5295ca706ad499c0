-- CALLS: enter, walk, say, shift, undo
theorem o2 {S S1 S2 : ov_S} {G : ov_L2} {P : pl_T} {c : Option (Int32 × ov_S)} {m : ov_S → Option (Int32 × ov_S)} (h : in_P S G P) (s : sm_S S S1) (s2 : sm_S S1 S2) (r : Int32) (hc : c = some (r, S1)) (hm : m S1 = some (r, S2)) : ok2 S G c m := ⟨r, S1, S2, hc, hm, ⟨P, in_sm (sm_tr s s2) h⟩, sm_0 s, sm_0 (sm_tr s s2)⟩
theorem E_mi {S : ov_S} {a F : Nat} {g : pg_g} {x : Int32} (h : pg_E S a g F) : pg_E (ov_up S a 4 x) a g F := ⟨fun k hk => by rw [up_n1 (by omega)]; exact h.1 k hk, fun f hf => by rw [up_n1 (by omega)]; exact h.2.1 f hf, by rw [up_n2 (by decide)]; exact h.2.2⟩
theorem E_sd {S : ov_S} {a F : Nat} {g : pg_g} {x : Int32} (h : pg_E S a g F) : pg_E (ov_up S a 3 x) a (pu g 6 x) F := ⟨fun k hk => by rw [up_n1 (by omega), pu_ne (by omega)]; exact h.1 k hk, fun f hf => by rw [up_n1 (by omega), pu_ne (by omega)]; exact h.2.1 f hf, by rw [up_eq, pu_eq]⟩
theorem E_st {S : ov_S} {a F f : Nat} {g : pg_g} {x : Int32} (hf : f < F) (h : pg_E S a g F) : pg_E (ov_up S (a + 2) f x) a (pu g (7 + f) x) F := by
  refine ⟨fun k hk => ?_, fun j hj => ?_, ?_⟩
  · rw [up_n1 (by omega), pu_ne (by omega)]
    exact h.1 k hk
  · by_cases e : j = f
    · rw [e, up_eq, pu_eq, if_pos hf]
    · rw [up_n2 e, pu_ne (by omega)]
      exact h.2.1 j hj
  · rw [up_n1 (by omega), pu_ne (by omega)]
    exact h.2.2
theorem E_cg {S : ov_S} {a F : Nat} {g g' : pg_g} (h4 : F ≤ 4) (e : ∀ j, j < 11 → g j = g' j) (h : pg_E S a g F) : pg_E S a g' F := by
  refine ⟨fun k hk => ?_, fun f hf => ?_, ?_⟩
  · rw [← e k (by omega)]
    exact h.1 k hk
  · rw [h.2.1 f hf]
    by_cases q : f < F
    · rw [if_pos q, if_pos q, e _ (by omega)]
    · rw [if_neg q, if_neg q]
  · rw [← e 6 (by omega)]
    exact h.2.2
theorem pu_pu {g : pg_g} {i j : Nat} {x y : Int32} (h : i ≠ j) : pu (pu g i x) j y = pu (pu g j y) i x := funext fun k => by
  unfold pu
  by_cases e : k = j
  · rw [if_pos e, if_neg (fun q => h (q.symm.trans e)), if_pos e]
  · rw [if_neg e, if_neg e]
theorem lkN_no : ∀ i, i ∈ [18, 19, 20, 24, 25, 26, 27, 55, 58] → ∀ j, lkN i j = false := by
  intro i hi j
  simp only [List.mem_cons, List.not_mem_nil, or_false] at hi
  rcases hi with h | h | h | h | h | h | h | h | h <;> (rw [h]; rfl)
theorem lkN_27 : lkN 42 27 = false := rfl
theorem lkN_0 : lkN 42 0 = false := rfl
section
variable {S : ov_S} {G : ov_L2} {P : pl_T} {a : Nat} {g : pg_g} {p : Nat}
theorem r_agL {S' : ov_S} (R : pl_R S P) (q : agL lkN S S') : pl_R S' P := cg_play (fun i j z => q i j (by unfold lkN; rw [z]; simp)) R
theorem act_go (h : in_P S G P) {S1 : ov_S} {j : Nat} {x q w fr : Int32} (hj : j < 11) (a1 : ag [18, 19, 20] S S1) (E1 : pg_E S1 18 (pu (S 55) j x) (pF P)) (e4 : S1 18 4 = S 18 4 + 1) (hV : pg_V (pu (S 55) j x) (pN P) (pF P)) (hb : ac_B q w fr (S 55) (pu (pu (S 55) 11 (S 55 11 + 1)) j x) (pN P) (pF P) (pL P)) : ∃ S2 S3, f75 S1 q w fr = some S2 ∧ f187 (ov_up S2 42 0 0) = some S3 ∧ pl_R S2 P ∧ S2 0 = S 0 ∧ pg_E S2 18 (pu (S 55) j x) (pF P) ∧ pl_R (ov_up S2 42 0 0) P ∧ pg_M (ov_up S2 42 0 0) 55 (S 55) ∧ S3 55 = pu (S 55) 11 (S 55 11 + 1) ∧ pl_R S3 P ∧ in_P (ov_up S3 55 j x) G P ∧ (ov_up S3 55 j x) 0 = S 0 := by
  have R := h.2.1
  have h6 := r_N6 R
  have h4 := r_F4 R
  obtain ⟨A, A1, A2, A3, A4⟩ := h.2.2.2.1
  have hv := h.2.2.1.1
  have em := h.2.2.1.2.2
  obtain ⟨S2, t1, t2, t3, t4, t5, t6, t7⟩ := s75 (S := S1) (q := q) (w := w) (fr := fr) A1 (by rw [a1 24 (by decide)]; exact A2)
  have b2 : ag [18, 19, 20, 24, 25, 26, 27] S S2 := ag_tr (ag_mo a1 (by decide)) (ag_mo t2 (by decide))
  obtain ⟨S3, u1, u2, u3, u4, u5, u6, u7⟩ := s187 (S := ov_up S2 42 0 0) A1 (by rw [up_n2 (by decide), b2 42 (by decide)]; exact A3)
  have l2 : agL lkN S S2 := agL_ag b2 (fun i hi => lkN_no i (by revert hi; revert i; decide))
  have l2' : agL lkN S (ov_up S2 42 0 0) := agL_tr l2 (agL_up rfl)
  have l3 : agL lkN (ov_up S2 42 0 0) S3 := fun i jj z => by
    by_cases e : i = 42
    · rw [e]
      exact u4 jj (fun y => by rw [e, y] at z; cases z)
    · by_cases e2 : i = 55
      · rw [e2, lkN_no 55 (by decide)] at z
        cases z
      · by_cases e3 : i = 58
        · rw [e3, lkN_no 58 (by decide)] at z
          cases z
        · rw [u2 i (by simp [e, e2, e3])]
  have l3' : agL lkN S S3 := agL_tr l2' l3
  have lf : agL lkN S (ov_up S3 55 j x) := agL_tr l3' (agL_up (lkN_no 55 (by decide) j))
  have E2 : pg_E S2 18 (pu (S 55) j x) (pF P) := E_n E1 (t2 18 (by decide)) (t2 19 (by decide)) (t2 20 (by decide))
  have f55 : (ov_up S3 55 j x) 55 = pu (pu (S 55) 11 (S 55 11 + 1)) j x := by
    rw [up_pu, u5, up_n1 (by decide), b2 55 (by decide)]
  have f18 : ∀ i, i ∈ [18, 19, 20, 24, 25, 26, 27] → (ov_up S3 55 j x) i = S2 i := fun i hi => by
    have c1 : i ≠ 55 ∧ i ≠ 42 ∧ i ∉ [42, 55, 58] := by revert hi; revert i; decide
    rw [up_n1 c1.1, u2 i c1.2.2, up_n1 c1.2.1]
  have Ef : pg_E (ov_up S3 55 j x) 18 (pu (pu (S 55) 11 (S 55 11 + 1)) j x) (pF P) := by
    refine E_cg h4 (fun k hk => ?_) (E_n E2 (f18 18 (by decide)) (f18 19 (by decide)) (f18 20 (by decide)))
    rw [pu_pu (show 11 ≠ j by omega), pu_ne (show k ≠ 11 by omega)]
  have Vf : pg_V (pu (pu (S 55) 11 (S 55 11 + 1)) j x) (pN P) (pF P) := by
    rw [pu_pu (show 11 ≠ j by omega)]
    exact V_mi hV h6 h4
  have hnow : in_now (ov_up S3 55 j x) (pN P) (pF P) := by
    refine ⟨by rw [f55]; exact Vf, by rw [f55]; exact Ef, ?_⟩
    rw [f55, f18 18 (by decide), t2 18 (by decide), e4, em, pu_ne (show 11 ≠ j by omega), pu_eq]
  have hac : in_acts (ov_up S3 55 j x) (pN P) (pF P) (pL P) := by
    refine ac_on (q := q) (w := w) (fr := fr) A1 h6 h4 A4 hv ?_ ?_ (fun i hi => ?_) ?_ (fun i hi k hk => ?_) (fun k hk => ?_) (by rw [f55]; exact hb)
    · rw [f18 24 (by decide), t3]
    · rw [up_n1 (by decide), u3]
    · rw [f18 25 (by decide), f18 26 (by decide), f18 27 (by decide)]
      obtain ⟨z1, z2, z3⟩ := t4 i hi
      rw [z1, z2, z3, a1 25 (by decide), a1 26 (by decide), a1 27 (by decide)]
      exact ⟨rfl, rfl, rfl⟩
    · rw [f18 25 (by decide), f18 26 (by decide), f18 27 (by decide)]
      exact ⟨t5, t6, t7⟩
    · rw [up_n1 (by decide), u6 i hi k hk, up_n1 (by decide), b2 58 (by decide)]
    · rw [up_n1 (by decide), u7 k hk, up_n1 (by decide), b2 55 (by decide)]
  refine ⟨S2, S3, t1, u1, r_agL R l2, b2 0 (by decide), E2, r_agL R l2', ⟨by decide, fun k _ => by rw [up_n1 (by decide), b2 55 (by decide)]⟩, ?_, r_agL R l3', in_N h lf hnow hac, ?_⟩
  · rw [u5, up_n1 (by decide), b2 55 (by decide)]
  · rw [up_0 (by decide), u2 0 (by decide), up_0 (by decide), b2 0 (by decide)]
theorem c_enter (h : in_P S G P) (x y : Int32) : ok2 S G (f73 S x y) (fun T => f184 T x y) := by
  have R := h.2.1
  have RT := (in_t0 h).2.1
  have hv := h.2.2.1.1
  have he := h.2.2.1.2.1
  have hm := M_t0 S 0
  have h6 := r_N6 R
  have h3 := r_D3 R
  have out : (x < 0 ∨ nI (pN P) ≤ x) → ok2 S G (f73 S x y) (fun T => f184 T x y) := fun hx => by
    refine o2 h sm_rf sm0 (-1) ?_ ?_
    · unfold f73
      rw [s29n R hx]
      rfl
    · show f184 S x y = _
      unfold f184
      rw [s175n RT hx]
      rfl
  rcases pk_ix x (n := pN P) (by omega) with hx | hx | ⟨k, hk, rfl⟩
  · exact out (.inl hx)
  · exact out (.inr hx)
  have out2 : (y < 0 ∨ nI (pD P) ≤ y) → ok2 S G (f73 S (nI k) y) (fun T => f184 T (nI k) y) := fun hy => by
    refine o2 h sm_rf sm0 (-1) ?_ ?_
    · unfold f73
      rw [s29 R hk, s58n R hy]
      rfl
    · show f184 S (nI k) y = _
      unfold f184
      rw [s175 RT hk, s172n RT hy]
      rfl
  rcases pk_ix y (n := pD P) (by omega) with hy | hy | ⟨d, hd, rfl⟩
  · exact out2 (.inl hy)
  · exact out2 (.inr hy)
  have hc := (r_dr R hd).2
  by_cases can : S 55 k = -9 ∧ (frm (S 55) (pN P) (pF P)).testBit (dr P d) = true
  · have hV := V_on hv h6 hk hc can.2
    have a1 : ag [18, 19, 20] S (ov_up (ov_up S (18 + 1) k (nI (dr P d))) 18 4 (S 18 4 + 1)) := ag_tr (ag_up (by decide)) (ag_up (by decide))
    have E1 : pg_E (ov_up (ov_up S (18 + 1) k (nI (dr P d))) 18 4 (S 18 4 + 1)) 18 (pu (S 55) k (nI (dr P d))) (pF P) := E_mi (E_pu (by omega) he)
    have hb : ac_B 0 (nI k) (-9) (S 55) (pu (pu (S 55) 11 (S 55 11 + 1)) k (nI (dr P d))) (pN P) (pF P) (pL P) := by
      refine ⟨by rw [pu_ne (show 11 ≠ k by omega), pu_eq], .inl ⟨rfl, k, hk, rfl, can.1.symm, fun j hj ne => ?_⟩⟩
      rw [pu_ne ne, pu_ne (by omega)]
    obtain ⟨S2, S3, w1, w2, w3, w4, w5, w6, w7, w8, w9, w10, w11⟩ := act_go h (by omega) a1 E1 up_eq hV hb
    have c1 : f73 S (nI k) (nI d) = some (nI (dr P d), S2) := by
      unfold f73
      rw [s29 R hk, Option.bind_some, if_neg (by decide), s58 R hd, Option.bind_some, if_neg (by decide), s74 R hv he hk hd, if_pos can, Option.bind_some]
      dsimp only
      rw [if_neg (by decide), w1, Option.bind_some, s35 w3 w5 hk, pu_eq]
      rfl
    have c2 : f184 S2 (nI k) (nI d) = some (nI (dr P d), ov_up S3 55 k (nI (dr P d))) := by
      unfold f184
      rw [s175 w6 hk, Option.bind_some, if_pos rfl, s172 w6 hd, Option.bind_some, if_pos rfl, s185 w6 hv w7 hk hd, if_pos can, Option.bind_some, if_neg (by decide), w2, Option.bind_some, zadd, ov_ck_t (ib_nI (by omega) (by omega)), ov_ck_t (ib_nI (by omega) (by omega)), ov_ck_t (ib_nI (by omega) (by omega)), nI_clamp (by omega), nI_clamp (by omega), up_n1 (show 44 ≠ 55 by decide), r_md w9 hd]
    exact ⟨_, S2, _, c1, c2, ⟨P, w10⟩, w4, w11⟩
  · refine o2 h sm_rf sm0 (-3) ?_ ?_
    · unfold f73
      rw [s29 R hk, Option.bind_some, if_neg (by decide), s58 R hd, Option.bind_some, if_neg (by decide), s74 R hv he hk hd, if_neg can]
      rfl
    · show f184 S (nI k) (nI d) = _
      unfold f184
      rw [s175 RT hk, Option.bind_some, if_pos rfl, s172 RT hd, Option.bind_some, if_pos rfl, s185 RT hv hm hk hd, if_neg can]
      rfl
theorem c_walk (h : in_P S G P) (x y : Int32) : ok2 S G (f77 S x y) (fun T => f188 T x y) := by
  have R := h.2.1
  have RT := (in_t0 h).2.1
  have hv := h.2.2.1.1
  have he := h.2.2.1.2.1
  have hm := M_t0 S 0
  have h6 := r_N6 R
  have out : (x < 0 ∨ nI (pN P) ≤ x) → ok2 S G (f77 S x y) (fun T => f188 T x y) := fun hx => by
    refine o2 h sm_rf sm0 (-1) ?_ ?_
    · unfold f77
      rw [s29n R hx]
      rfl
    · show f188 S x y = _
      unfold f188
      rw [s175n RT hx]
      rfl
  rcases pk_ix x (n := pN P) (by omega) with hx | hx | ⟨k, hk, rfl⟩
  · exact out (.inl hx)
  · exact out (.inr hx)
  have out2 : (y < 0 ∨ nI 4 ≤ y) → ok2 S G (f77 S (nI k) y) (fun T => f188 T (nI k) y) := fun hy => by
    refine o2 h sm_rf sm0 (-2) ?_ ?_
    · unfold f77
      rw [s29 R hk, Option.bind_some, if_neg (by decide)]
      by_cases h0 : y < 0
      · rw [if_pos h0]
      · have h1 := hy.resolve_left h0
        have : ¬ y ≤ (3 : Int32) := fun q => by
          have a := Int32.le_iff_toInt_le.mp h1
          have b := Int32.le_iff_toInt_le.mp q
          rw [nI_toInt (by omega)] at a
          rw [show (3 : Int32) = nI 3 from rfl, nI_toInt (by omega)] at b
          omega
        rw [if_neg h0, if_neg this]
    · show f188 S (nI k) y = _
      unfold f188
      rw [s175 RT hk, Option.bind_some, if_pos rfl, show (3 : Int64) = (3 : Int32).toInt64 from rfl, s144z (n := 3) 3 rfl (by omega) hy]
      rfl
  rcases pk_ix y (n := 4) (by omega) with hy | hy | ⟨w, hw, rfl⟩
  · exact out2 (.inl hy)
  · exact out2 (.inr hy)
  by_cases can : wkt P (S 55) k w = -9
  · refine o2 h sm_rf sm0 (-3) ?_ ?_
    · unfold f77
      rw [s29 R hk, Option.bind_some, if_neg (by decide), if_neg (nI_l0 (by omega)), show (3 : Int32) = nI 3 from rfl, if_pos (le_nI (by omega) (by omega)), s35 R he hk, Option.bind_some, s78 R hv he hk hw, if_pos can]
      rfl
    · show f188 S (nI k) (nI w) = _
      unfold f188
      rw [s175 RT hk, Option.bind_some, if_pos rfl, show (3 : Int64) = (3 : Int32).toInt64 from rfl, s144y (n := 3) 3 rfl (by omega) (by omega), Option.bind_some, if_neg (by decide), s189 RT hv hm hk hw, Option.bind_some, if_pos can]
  · obtain ⟨n, n1, n2, n3, n4⟩ := (wkt_sp (P := P) hv (show k < 6 by omega) hw).resolve_left can
    have hV := V_on hv h6 hk n1 n3
    rw [← n2] at hV
    have a1 : ag [18, 19, 20] S (ov_up (ov_up S (18 + 1) k (wkt P (S 55) k w)) 18 4 (S 18 4 + 1)) := ag_tr (ag_up (by decide)) (ag_up (by decide))
    have E1 : pg_E (ov_up (ov_up S (18 + 1) k (wkt P (S 55) k w)) 18 4 (S 18 4 + 1)) 18 (pu (S 55) k (wkt P (S 55) k w)) (pF P) := E_mi (E_pu (by omega) he)
    have hb : ac_B 0 (nI k) (S 55 k) (S 55) (pu (pu (S 55) 11 (S 55 11 + 1)) k (wkt P (S 55) k w)) (pN P) (pF P) (pL P) := by
      refine ⟨by rw [pu_ne (show 11 ≠ k by omega), pu_eq], .inl ⟨rfl, k, hk, rfl, rfl, fun j hj ne => ?_⟩⟩
      rw [pu_ne ne, pu_ne (by omega)]
    obtain ⟨S2, S3, w1, w2, w3, w4, w5, w6, w7, w8, w9, w10, w11⟩ := act_go h (by omega) a1 E1 up_eq hV hb
    have c1 : f77 S (nI k) (nI w) = some (wkt P (S 55) k w, S2) := by
      unfold f77
      rw [s29 R hk, Option.bind_some, if_neg (by decide), if_neg (nI_l0 (by omega)), show (3 : Int32) = nI 3 from rfl, if_pos (le_nI (by omega) (by omega)), s35 R he hk, Option.bind_some, s78 R hv he hk hw, if_neg can, Option.bind_some]
      dsimp only
      rw [if_neg (by decide), w1, Option.bind_some, s35 w3 w5 hk, pu_eq]
      rfl
    have c2 : f188 S2 (nI k) (nI w) = some (wkt P (S 55) k w, ov_up S3 55 k (wkt P (S 55) k w)) := by
      unfold f188
      rw [s175 w6 hk, Option.bind_some, if_pos rfl, show (3 : Int64) = (3 : Int32).toInt64 from rfl, s144y (n := 3) 3 rfl (by omega) (by omega), Option.bind_some, if_neg (by decide), s189 w6 hv w7 hk hw, Option.bind_some, if_neg can, w2, Option.bind_some, zadd, ov_ck_t (ib_nI (by omega) (by omega)), nI_clamp (by omega)]
    exact ⟨_, S2, _, c1, c2, ⟨P, w10⟩, w4, w11⟩
theorem c_say (h : in_P S G P) (x : Int32) : ok2 S G (f80 S x) (fun T => f190 T x) := by
  have R := h.2.1
  have RT := (in_t0 h).2.1
  have hv := h.2.2.1.1
  have he := h.2.2.1.2.1
  have hm := M_t0 S 0
  have hN := r_N6 R
  have h6 := r_L6 R
  obtain ⟨m1, m2⟩ := sd_e hv
  have out : (x < 0 ∨ nI (pL P) ≤ x) → ok2 S G (f80 S x) (fun T => f190 T x) := fun hx => by
    refine o2 h sm_rf sm0 (-1) ?_ ?_
    · unfold f80
      rw [s45n R hx]
      rfl
    · show f190 S x = _
      unfold f190
      rw [s144o (r_mL RT) (by omega) hx]
      rfl
  rcases pk_ix x (n := pL P) (by omega) with hx | hx | ⟨l, hl, rfl⟩
  · exact out (.inl hx)
  · exact out (.inr hx)
  by_cases can : (hdm P (S 55)).testBit l = true
  · have mb : sd (S 55) ||| 2 ^ l < 2 ^ 6 := Nat.or_lt_two_pow m1 (Nat.pow_lt_pow_right (by omega) (by omega))
    have hV := V_say hv (m := sd (S 55) ||| 2 ^ l) mb hN
    have a1 : ag [18, 19, 20] S (ov_up (ov_up S 18 3 (nI (sd (S 55) ||| 2 ^ l))) 18 4 (S 18 4 + 1)) := ag_tr (ag_up (by decide)) (ag_up (by decide))
    have E1 : pg_E (ov_up (ov_up S 18 3 (nI (sd (S 55) ||| 2 ^ l))) 18 4 (S 18 4 + 1)) 18 (pu (S 55) 6 (nI (sd (S 55) ||| 2 ^ l))) (pF P) := E_mi (E_sd he)
    have nb : (sd (S 55)).testBit l = false := by
      have := can
      unfold hdm at this
      rw [tb_mk, Bool.and_eq_true, Bool.and_eq_true, Bool.not_eq_true'] at this
      exact this.2.1
    have hb : ac_B 1 (nI l) (-9) (S 55) (pu (pu (S 55) 11 (S 55 11 + 1)) 6 (nI (sd (S 55) ||| 2 ^ l))) (pN P) (pF P) (pL P) := by
      refine ⟨by rw [pu_ne (show 11 ≠ 6 by decide), pu_eq], .inr (.inl ⟨rfl, l, sd (S 55), hl, rfl, m1, m2, nb, by rw [pu_eq], fun j hj ne => ?_⟩)⟩
      rw [pu_ne ne, pu_ne (by omega)]
    obtain ⟨S2, S3, w1, w2, w3, w4, w5, w6, w7, w8, w9, w10, w11⟩ := act_go h (by omega) a1 E1 up_eq hV hb
    have c1 : f80 S (nI l) = some (nI (pc (sd (S 55) ||| 2 ^ l)), S2) := by
      unfold f80
      rw [s45 R hl, Option.bind_some, if_neg (by decide), s81 R hv he (by omega), if_pos can, Option.bind_some]
      dsimp only
      rw [if_neg (by decide), w1, Option.bind_some]
      unfold f41
      rw [Option.bind_some, w5.2.2, pu_eq, s69 (by omega)]
      rfl
    have c2 : f190 S2 (nI l) = some (nI (pc (sd (S 55) ||| 2 ^ l)), ov_up S3 55 6 (nI (sd (S 55) ||| 2 ^ l))) := by
      have e6 : S3 55 ((6 : Int32)).toNatClampNeg = nI (sd (S 55)) := by
        rw [w8]
        exact m2
      unfold f190
      rw [s144i (r_mL w6) hl (by omega), Option.bind_some, if_neg (by decide), s164 w6 hv w7 hl, if_pos can, Option.bind_some, if_neg (by decide), w2, Option.bind_some, e6, nI_sh1 l (by omega), nI_or, up_eq, s191 (by omega)]
      rfl
    exact ⟨_, S2, _, c1, c2, ⟨P, w10⟩, w4, w11⟩
  · refine o2 h sm_rf sm0 (-3) ?_ ?_
    · unfold f80
      rw [s45 R hl, Option.bind_some, if_neg (by decide), s81 R hv he (by omega), if_neg can]
      rfl
    · show f190 S (nI l) = _
      unfold f190
      rw [s144i (r_mL RT) hl (by omega), Option.bind_some, if_neg (by decide), s164 RT hv hm hl, if_neg can]
      rfl
theorem c_shift (h : in_P S G P) (x y : Int32) : ok2 S G (f82 S x y) (fun T => f192 T x y) := by
  have R := h.2.1
  have RT := (in_t0 h).2.1
  have hv := h.2.2.1.1
  have he := h.2.2.1.2.1
  have hm := M_t0 S 0
  have h6 := r_N6 R
  have h4 := r_F4 R
  have out : (x < 0 ∨ nI (pF P) ≤ x) → ok2 S G (f82 S x y) (fun T => f192 T x y) := fun hx => by
    refine o2 h sm_rf sm0 (-1) ?_ ?_
    · unfold f82
      rw [s7n R hx]
      rfl
    · show f192 S x y = _
      unfold f192
      rw [s144o (r_mF RT) (by omega) hx]
      rfl
  rcases pk_ix x (n := pF P) (by omega) with hx | hx | ⟨f, hf, rfl⟩
  · exact out (.inl hx)
  · exact out (.inr hx)
  have out2 : (y < 0 ∨ nI 18 ≤ y) → ok2 S G (f82 S (nI f) y) (fun T => f192 T (nI f) y) := fun hy => by
    refine o2 h sm_rf sm0 (-1) ?_ ?_
    · unfold f82
      rw [s7 R hf, s49o hy]
      rfl
    · show f192 S (nI f) y = _
      unfold f192
      rw [s144i (r_mF RT) hf (by omega), Option.bind_some, if_neg (by decide), s193n hy]
      rfl
  rcases pk_ix y (n := 18) (by omega) with hy | hy | ⟨c, hc, rfl⟩
  · exact out2 (.inl hy)
  · exact out2 (.inr hy)
  by_cases can : (frm (S 55) (pN P) (pF P)).testBit c = true ∧ (dmk P).testBit c = false
  · have hV := V_sh hv h6 hf hc can.1
    have a1 : ag [18, 19, 20] S (ov_up (ov_up S (18 + 2) f (nI c)) 18 4 (S 18 4 + 1)) := ag_tr (ag_up (by decide)) (ag_up (by decide))
    have E1 : pg_E (ov_up (ov_up S (18 + 2) f (nI c)) 18 4 (S 18 4 + 1)) 18 (pu (S 55) (7 + f) (nI c)) (pF P) := E_mi (E_st hf he)
    have hb : ac_B 2 (nI f) (S 55 (7 + f)) (S 55) (pu (pu (S 55) 11 (S 55 11 + 1)) (7 + f) (nI c)) (pN P) (pF P) (pL P) := by
      refine ⟨by rw [pu_ne (show 11 ≠ 7 + f by omega), pu_eq], .inr (.inr ⟨rfl, f, hf, rfl, rfl, fun j hj ne => ?_⟩)⟩
      rw [pu_ne ne, pu_ne (by omega)]
    obtain ⟨S2, S3, w1, w2, w3, w4, w5, w6, w7, w8, w9, w10, w11⟩ := act_go h (show 7 + f < 11 by omega) a1 E1 up_eq hV hb
    have c1 : f82 S (nI f) (nI c) = some (S 55 (7 + f), S2) := by
      unfold f82
      rw [s7 R hf, Option.bind_some, if_neg (by decide), s49i hc, Option.bind_some, if_neg (by decide), s61 R he hf, Option.bind_some, s83 R hv he hf hc, if_pos can, Option.bind_some]
      dsimp only
      rw [if_neg (by decide), w1]
      rfl
    have c2 : f192 S2 (nI f) (nI c) = some (S 55 (7 + f), ov_up S3 55 (7 + f) (nI c)) := by
      unfold f192
      rw [s144i (r_mF w6) hf (by omega), Option.bind_some, if_neg (by decide), s193 hc, Option.bind_some, if_pos rfl, s186 w6 w7 hv hc, if_pos can.1, Option.bind_some, if_neg (by decide), s194 w6 hc, can.2, Option.bind_some, if_pos (by rfl), w2, Option.bind_some, show (7 : Int32) = nI 7 from rfl, nI_add, ov_ck_t (ib_nI (by omega) (by omega)), ov_ck_t (ib_nI (by omega) (by omega)), nI_clamp (by omega), w8, pu_ne (by omega)]
    exact ⟨_, S2, _, c1, c2, ⟨P, w10⟩, w4, w11⟩
  · refine o2 h sm_rf sm0 (-3) ?_ ?_
    · unfold f82
      rw [s7 R hf, Option.bind_some, if_neg (by decide), s49i hc, Option.bind_some, if_neg (by decide), s61 R he hf, Option.bind_some, s83 R hv he hf hc, if_neg can]
      rfl
    · show f192 S (nI f) (nI c) = _
      unfold f192
      rw [s144i (r_mF RT) hf (by omega), Option.bind_some, if_neg (by decide), s193 hc, Option.bind_some, if_pos rfl, s186 RT hm hv hc, Option.bind_some]
      cases t : (frm (S 55) (pN P) (pF P)).testBit c
      · rfl
      · cases u : (dmk P).testBit c
        · exact absurd ⟨t, u⟩ can
        · rw [if_c1, s194 RT hc, u]
          rfl
end
