section
variable {S : ov_S} {G : ov_L2} {P : pl_T} {a : Nat} {g : pg_g} {p : Nat}
theorem or64 {s k : Nat} (hs : s < 64) (hk : k < 6) : s ||| 2 ^ k < 64 := Nat.or_lt_two_pow (n := 6) hs (Nat.pow_lt_pow_right (by omega) hk)
theorem sh1 (R : pl_R S P) (hv : pg_V g (pN P) (pF P)) (he : pg_E S 18 g (pF P)) {k o : Nat} (hk : k < 6) (ho : o < 64) (x : Int32) : ov_lp (fun s => b118_54 S (nI k) x (nI o) (nI (pc o)) s.1 s.2) 2000 ((0 : Int64), (0 : Int32)) = some (zL (sumI (moF P g k o (pc o)) (o + 1))) := by
  have h33 : ∀ s, s < 64 → f113 18 S (nI s) = some (nI (pc (hdm P (rs g s)))) := fun s hs => by rw [s113 R hv he hs, hdx_rs R hs]
  refine lp_for (fun s => (zL (sumI (moF P g k o (pc o)) s), nI s)) (o + 1) rfl (fun s hs => ?_) ?_ (by omega)
  · show b118_54 S (nI k) x (nI o) (nI (pc o)) (zL (sumI (moF P g k o (pc o)) s)) (nI s) = some (.inl (zL (sumI (moF P g k o (pc o)) s + moF P g k o (pc o) s), nI (s + 1)))
    unfold b118_54 f118_126_54
    rw [if_neg (nlt_nI (by omega) (by omega)), nI_cm, nI_1]
    have cl : cm s o < 64 := cm_lt (n := 6) (show s < 2 ^ 6 by omega)
    unfold moF
    by_cases c : cm s o = 0
    · have pl : pc s ≤ pc o := by
        refine pcn_mono (fun i hi => ?_) 18
        have := tb_cm (m := s) (b := o) (i := i) (by omega)
        rw [c, hi, Nat.zero_testBit] at this
        cases z : o.testBit i
        · rw [z] at this
          cases this
        · rfl
      have po := pc_6 ho
      rw [if_pos (by rw [c]; rfl), if_pos c, s69 (by omega), Option.bind_some, f122_t _ (by omega), Option.bind_some, pk_sub pl, f122_t _ (by omega), Option.bind_some, s27 (by omega), Option.bind_some, h33 _ (or64 (by omega) hk), Option.bind_some, h33 s (by omega), Option.bind_some]
      have em : (nI (pc (hdm P (rs g (s ||| 2 ^ k)))) - nI (pc (hdm P (rs g s)))).toInt64 = zL (mg P g k s) := by
        have b := vv_b P g k s
        rw [← zI_n, ← zI_n, ← zI_sub]
        exact zI_l (by show -2 ^ 31 ≤ mg P g k s; omega) (by show mg P g k s < 2 ^ 31; omega)
      rw [em, lN_mul, ← zL_n, ← zL_mul, ← zL_add]
    · rw [if_neg (fun q => c ((nI_z (by omega)).mp q)), if_neg c, Int.add_zero]
  · show b118_54 S (nI k) x (nI o) (nI (pc o)) _ (nI (o + 1)) = _
    unfold b118_54
    rw [if_pos (lt_nI (by omega) (by omega))]
theorem c118 (h : in_P S G P) {k : Nat} (hk : k < pN P) (x : Int32) : f118 S (nI k) x = some (frc (sumI (upF P (S 55) k (pN P)) (2 ^ pN P)) (fc (pN P)) x) := by
  have R := h.2.1
  have hv := h.2.2.1.1
  have he := h.2.2.1.2.1
  have h6 := r_N6 R
  have ol := onm_lt (g := S 55) R
  have cl : cm (onm P (S 55)) (2 ^ k) < 64 := cm_lt (n := 6) ol
  have f0 := fc_b (pN P) (by omega)
  unfold f118
  rw [s29 R hk, Option.bind_some, if_neg (by decide), s33 R he, Option.bind_some, s91 (by omega) (by omega), Option.bind_some]
  by_cases on : S 55 k = -9
  · have kb : (onm P (S 55)).testBit k = false := by rw [onm_tb hv (by omega)]; exact decide_eq_false (fun q => q on)
    have e : cm (onm P (S 55)) (2 ^ k) = onm P (S 55) := by
      apply Nat.eq_of_testBit_eq
      intro t
      rw [tb_cm (by omega), tb_pow]
      by_cases q : k = t
      · rw [← q, kb]
        rfl
      · rw [decide_eq_false q]
        simp
    rw [if_pos (by rw [e]), sh_off hv (by omega) on, frc_0 f0.1]
    have := s119 (z := 0) (b := 1) (by omega) (by omega) (by omega) (by omega) x
    rw [show f119 (0 : Int64) (1 : Int64) x = some (frc 0 1 x) from this]
    rfl
  · have kb : (onm P (S 55)).testBit k = true := by rw [onm_tb hv (by omega)]; exact decide_eq_true on
    have ne : ¬ nI (cm (onm P (S 55)) (2 ^ k)) = nI (onm P (S 55)) := by
      refine nI_ne (fun q => ?_) (by omega) (by omega)
      have : (cm (onm P (S 55)) (2 ^ k)).testBit k = false := by rw [tb_cm (by omega), tb_pow, decide_eq_true rfl]; simp
      rw [q, kb] at this
      cases this
    have pce : pc (onm P (S 55)) = pc (cm (onm P (S 55)) (2 ^ k)) + 1 := by
      have ck : (cm (onm P (S 55)) (2 ^ k)).testBit k = false := by rw [tb_cm (by omega), tb_pow, decide_eq_true rfl]; simp
      have or_on : cm (onm P (S 55)) (2 ^ k) ||| 2 ^ k = onm P (S 55) := by
        apply Nat.eq_of_testBit_eq
        intro t
        rw [Nat.testBit_or, tb_cm (by omega), tb_pow]
        by_cases q : k = t
        · rw [← q, kb, decide_eq_true rfl]
          rfl
        · rw [decide_eq_false q]
          simp
      rw [← pc_or ck (by omega), or_on]
    have po := pc_6 ol
    have f1 := fc_b (pc (cm (onm P (S 55)) (2 ^ k)) + 1) (by omega)
    have mb := mo_b (P := P) (g := S 55) (k := k) (o := cm (onm P (S 55)) (2 ^ k)) (b := pc (cm (onm P (S 55)) (2 ^ k))) (by omega) (cm (onm P (S 55)) (2 ^ k) + 1) (by omega)
    rw [if_neg ne, s69 (by omega), Option.bind_some, sh1 R hv he (by omega) cl, Option.bind_some, nI_1, f122_t _ (by omega), Option.bind_some, s119 (by omega) (by omega) f1.1 (by omega), sh_eq R hv hk on x]
    rfl
-- the reference's
theorem sv_row (R : pl_R S P) (hv : pg_V g (pN P) (pF P)) (h55 : S 55 = g) (hm : pg_M S 56 g) {s : Nat} (hs : s < 64) (x1 x2 : Int32) : ∃ T, ov_lp (fun st => b211_43 x1 x2 (nI s) st.1 st.2) 2000 ((0 : Int32), S) = some T ∧ (ag [56] S T ∧ pg_M T 56 (rs g s)) := by
  have h6 := r_N6 R
  have L : ∃ T, ov_lp (fun st => b211_43 x1 x2 (nI s) st.1 st.2) 2000 ((0 : Int32), S) = some T ∧ (ag [56] S T ∧ (∀ j, j < pN P → T 56 j = rs g s j) ∧ ∀ j, pN P ≤ j → T 56 j = S 56 j) := by
    refine lp_inv (fun (k : Nat) (st : Int32 × ov_S) => st.1 = nI k ∧ ag [56] S st.2 ∧ (∀ j, j < k → st.2 56 j = rs g s j) ∧ ∀ j, k ≤ j → st.2 56 j = S 56 j) (fun (T : ov_S) => ag [56] S T ∧ (∀ j, j < pN P → T 56 j = rs g s j) ∧ ∀ j, pN P ≤ j → T 56 j = S 56 j) (pN P) ?_ ?_ 0 _ (by omega) ⟨rfl, ag_rf, fun j h => absurd h (Nat.not_lt_zero _), fun _ _ => rfl⟩ (by omega)
    · rintro k ⟨x, T⟩ hk ⟨rfl, h2, h3, h4⟩
      replace h2 : ag [56] S T := h2
      have RT := r_ag R h2 (by decide)
      refine ⟨(nI k + 1, ov_up T 56 k (rs g s k)), ?_, nI_1 k, ag_tr h2 (ag_up (by decide)), fun j hj => ?_, fun j hj => ?_⟩
      · show b211_43 x1 x2 (nI s) (nI k) T = _
        unfold b211_43 f211_83_43
        rw [r_mN RT, if_neg (nle_nI hk (by omega)), s152 (by omega) (by omega), Option.bind_some, zadd, ov_ck_t (ib_nI (by omega) (by omega)), nI_clamp (by omega), h2 55 (by decide), h55]
        cases t : s.testBit k
        · rw [if_c0, rs_out (by omega) t]
        · rw [if_c1, ov_ck_t (ib_nI (by omega) (by omega)), ov_ck_t (ib_nI (by omega) (by omega)), rs_in t]
      · show ov_up T 56 k _ 56 j = _
        by_cases z : j = k
        · rw [z, up_eq]
        · rw [up_n2 z]
          exact h3 j (by omega)
      · show ov_up T 56 k _ 56 j = _
        rw [up_n2 (by omega)]
        exact h4 j (by omega)
    · rintro ⟨x, T⟩ ⟨rfl, h2⟩
      replace h2 : ag [56] S T ∧ _ := h2
      refine ⟨T, ?_, h2⟩
      show b211_43 x1 x2 (nI s) (nI (pN P)) T = _
      unfold b211_43
      rw [r_mN (r_ag R h2.1 (by decide)), if_pos (le_nI (Nat.le_refl _) (by omega))]
  obtain ⟨T, t1, t2, t3, t4⟩ := L
  refine ⟨T, t1, t2, hm.1, fun j hj => ?_⟩
  by_cases q : j < pN P
  · exact t3 j q
  · rw [t4 j (by omega), hm.2 j hj]
    by_cases z : j < 6
    · rw [hv.2.1 j (by omega) z]
      cases t : s.testBit j
      · rw [rs_out z t]
      · rw [rs_in t, hv.2.1 j (by omega) z]
    · rw [rs_hi (by omega)]
theorem sv_all (R : pl_R S P) (hv : pg_V g (pN P) (pF P)) (h55 : S 55 = g) (x1 x2 : Int32) : ∃ T, ov_lp (fun st => b211_17 x1 x2 st.1 st.2) 2000 ((0 : Int32), S) = some T ∧ (sm_S S T ∧ ∀ s, s < 2 ^ pN P → T 66 s = nI (pc (hdm P (rs g s)))) := by
  have h6 := r_N6 R
  have p64 : 2 ^ pN P ≤ 2 ^ 6 := Nat.pow_le_pow_right (by decide) h6
  refine lp_inv (fun (s : Nat) (st : Int32 × ov_S) => st.1 = nI s ∧ sm_S S st.2 ∧ ∀ j, j < s → st.2 66 j = nI (pc (hdm P (rs g j)))) (fun (T : ov_S) => sm_S S T ∧ ∀ s, s < 2 ^ pN P → T 66 s = nI (pc (hdm P (rs g s)))) (2 ^ pN P) ?_ ?_ 0 _ (Nat.zero_le _) ⟨rfl, sm_rf, fun j h => absurd h (Nat.not_lt_zero _)⟩ (by omega)
  · rintro s ⟨x, T⟩ hs ⟨rfl, h2, h3⟩
    replace h2 : sm_S S T := h2
    replace h3 : ∀ j, j < s → T 66 j = nI (pc (hdm P (rs g j))) := h3
    have RT := r_sm R h2
    have e55 : T 55 = g := (funext fun j => h2 55 j rfl).trans h55
    obtain ⟨T1, u1, u2, u3, u4, u5⟩ := mc_go RT e55
    have e55' : T1 55 = g := (u2 55 (by decide)).trans e55
    obtain ⟨T2, v1, v2, v3⟩ := sv_row u4 hv e55' u3 (s := s) (by omega) x1 x2
    have R2 := r_ag u4 v2 (by decide)
    have hb := hdm_lt (g := rs g s) R
    have s2 : sm_S S T2 := sm_tr h2 (sm_tr u5 (sm_ag v2 (fun i hi j => by rw [List.mem_singleton.mp hi]; rfl)))
    refine ⟨(nI s + 1, ov_up T2 66 s (nI (pc (hdm P (rs g s))))), ?_, nI_1 s, sm_tr s2 (sm_up rfl), fun j hj => ?_⟩
    · show b211_17 x1 x2 (nI s) T = _
      unfold b211_17
      rw [r_mN RT, nI_sh1 _ (by omega), if_neg (nle_nI hs (by omega)), u1, Option.bind_some, v1, Option.bind_some, s163 R2 (V_rs hv) v3, Option.bind_some, s191 (by omega), Option.bind_some, ov_ck_t (ib_nI (by omega) (by omega)), nI_clamp (by omega)]
    · show ov_up T2 66 s _ 66 j = _
      by_cases z : j = s
      · rw [z, up_eq]
      · rw [up_n2 z, v2 66 (by decide), u2 66 (by decide)]
        exact h3 j (by omega)
  · rintro ⟨x, T⟩ ⟨rfl, h2⟩
    replace h2 : sm_S S T ∧ _ := h2
    refine ⟨T, ?_, h2⟩
    show b211_17 x1 x2 (nI (2 ^ pN P)) T = _
    unfold b211_17
    rw [r_mN (r_sm R h2.1), nI_sh1 _ (by omega), if_pos (le_nI (Nat.le_refl _) (by omega))]
theorem sv_sum (R : pl_R S P) {k : Nat} (hk : k < pN P) (h66 : ∀ s, s < 2 ^ pN P → S 66 s = nI (pc (hdm P (rs g s)))) (x : Int32) : ov_lp (fun st => b211_118 S (nI k) x st.1 st.2) 2000 ((0 : Int32), (0 : Int32)) = some (zI (sumI (upF P g k (pN P)) (2 ^ pN P))) := by
  have h6 := r_N6 R
  have p64 : 2 ^ pN P ≤ 2 ^ 6 := Nat.pow_le_pow_right (by decide) h6
  refine lp_for (fun s => (zI (sumI (upF P g k (pN P)) s), nI s)) (2 ^ pN P) rfl (fun s hs => ?_) ?_ (by omega)
  · show b211_118 S (nI k) x (zI (sumI (upF P g k (pN P)) s)) (nI s) = some (.inl (zI (sumI (upF P g k (pN P)) s + upF P g k (pN P) s), nI (s + 1)))
    unfold b211_118 f211_186_118
    rw [r_mN R, nI_sh1 _ (by omega), if_neg (nle_nI hs (by omega)), s152 (by omega) (by omega), Option.bind_some, nI_1]
    unfold upF
    cases t : s.testBit k
    · have o64 : s ||| 2 ^ k < 2 ^ pN P := Nat.or_lt_two_pow hs (Nat.pow_lt_pow_right (by omega) hk)
      have pl : pc s ≤ pN P - 1 := by
        have e1 := pc_or t (by omega)
        have e2 : pc (s ||| 2 ^ k) = pcn (s ||| 2 ^ k) (pN P) := pcn_end (fun i hi => Nat.testBit_lt_two_pow (Nat.lt_of_lt_of_le o64 (Nat.pow_le_pow_right (by decide) hi))) 18 (by omega)
        have := pcn_le (s ||| 2 ^ k) (pN P)
        omega
      rw [if_c0, if_neg (show ¬ false = true by decide), s191 (by omega), Option.bind_some, f212_t _ (by omega), Option.bind_some, show (1 : Int32) = nI 1 from rfl, pk_sub (by omega), pk_sub pl, f212_t _ (by omega), Option.bind_some, show nI 1 = (1 : Int32) from rfl, nI_sh1 k (by omega), nI_or, ov_ck_t (ib_nI (by omega) (by omega)), ov_ck_t (ib_nI (by omega) (by omega)), nI_clamp (by omega), nI_clamp (by omega), h66 _ o64, h66 s hs, ← zI_n, ← zI_n, ← zI_n, ← zI_n, ← zI_sub, ← zI_mul, ← zI_mul, ← zI_add, Int.natCast_mul]
      rfl
    · rw [if_c1, if_pos rfl, Int.add_zero]
  · show b211_118 S (nI k) x _ (nI (2 ^ pN P)) = _
    unfold b211_118
    rw [r_mN R, nI_sh1 _ (by omega), if_pos (le_nI (Nat.le_refl _) (by omega))]
theorem c_share (h : in_P S G P) (x y : Int32) : ok1 S G (f118 S x y) (f211 S x y) := by
  have R := h.2.1
  have RT := (in_t0 h).2.1
  have hv := h.2.2.1.1
  have h6 := r_N6 R
  have out : (x < 0 ∨ nI (pN P) ≤ x) → ok1 S G (f118 S x y) (f211 S x y) := fun hx => by
    unfold f118 f211
    rw [s29n R hx, s175n RT hx]
    exact o1 h sm0 (-1) rfl rfl
  rcases pk_ix x (n := pN P) (by omega) with hx | hx | ⟨k, hk, rfl⟩
  · exact out (.inl hx)
  · exact out (.inr hx)
  have e55 : (ov_up S 42 0 0) 55 = S 55 := up_n1 (by decide)
  obtain ⟨T, t1, t2, t3⟩ := sv_all RT hv e55 (nI k) y
  have R2 := r_sm RT t2
  have f0 := fc_b (pN P) (by omega)
  have p64 : 2 ^ pN P ≤ 2 ^ 6 := Nat.pow_le_pow_right (by decide) h6
  have ub := up_b (P := P) (g := S 55) (k := k) h6 (2 ^ pN P) (by omega)
  refine o1 h (sm_tr sm0 t2) _ (c118 h hk y) ?_
  unfold f211
  rw [s175 RT hk, Option.bind_some, if_pos rfl, t1, Option.bind_some, sv_sum R2 hk t3, Option.bind_some, r_mN R2, f212_t _ (by omega), Option.bind_some, s213 (by omega) (by omega) f0.1 (by omega)]
  rfl
end
