-- CALLS: undo, keep, again, seed
theorem s97 {S : ov_S} {a b : Nat} (hab : a + 2 < b ∨ b + 2 < a) : ∃ S', f97 a b S = some S' ∧ ag [a, a + 1, a + 2] S S' ∧ (∀ g F, pg_E S b g F → pg_E S' a g F) ∧ S' a 4 = S b 4 := by
  have e1 : ∀ j, (ov_cp (ov_cp S (b + 1) 0 (a + 1) 0 6) (b + 2) 0 (a + 2) 0 4) b j = S b j := fun j => by
    rw [cp_n1 (by omega), cp_n1 (by omega)]
  have e2 : ∀ j, j < 6 → (ov_cp (ov_cp S (b + 1) 0 (a + 1) 0 6) (b + 2) 0 (a + 2) 0 4) (a + 1) j = S (b + 1) j := fun j hj => by
    rw [cp_n1 (by omega), cp_in (by omega)]
    congr 1
    omega
  have e3 : ∀ j, j < 4 → (ov_cp (ov_cp S (b + 1) 0 (a + 1) 0 6) (b + 2) 0 (a + 2) 0 4) (a + 2) j = S (b + 2) j := fun j hj => by
    rw [cp_in (by omega), cp_n1 (by omega)]
    congr 1
    omega
  have e4 : ag [a, a + 1, a + 2] S (ov_cp (ov_cp S (b + 1) 0 (a + 1) 0 6) (b + 2) 0 (a + 2) 0 4) := fun i hi => by
    simp only [List.mem_cons, List.not_mem_nil, or_false, not_or] at hi
    rw [cp_n1 (by omega), cp_n1 (by omega)]
  have e0 : f97 a b S = some (ov_up (ov_up (ov_cp (ov_cp S (b + 1) 0 (a + 1) 0 6) (b + 2) 0 (a + 2) 0 4) a 3 ((ov_cp (ov_cp S (b + 1) 0 (a + 1) 0 6) (b + 2) 0 (a + 2) 0 4) b 3)) a 4 ((ov_up (ov_cp (ov_cp S (b + 1) 0 (a + 1) 0 6) (b + 2) 0 (a + 2) 0 4) a 3 ((ov_cp (ov_cp S (b + 1) 0 (a + 1) 0 6) (b + 2) 0 (a + 2) 0 4) b 3)) b 4)) := rfl
  generalize ov_cp (ov_cp S (b + 1) 0 (a + 1) 0 6) (b + 2) 0 (a + 2) 0 4 = T at e0 e1 e2 e3 e4
  refine ⟨_, e0, ag_tr e4 (ag_tr (ag_up (by simp)) (ag_up (by simp))), fun g F h => ⟨fun k hk => ?_, fun f hf => ?_, ?_⟩, ?_⟩
  · rw [up_n1 (by omega), up_n1 (by omega), e2 k hk]
    exact h.1 k hk
  · rw [up_n1 (by omega), up_n1 (by omega), e3 f hf]
    exact h.2.1 f hf
  · rw [up_n2 (by decide), up_eq, e1]
    exact h.2.2
  · rw [up_eq, up_n1 (by omega), e1]
theorem s158 {S : ov_S} {p0 p1 n : Nat} (hp : p0 ≠ p1) (h0 : n ≤ ov_ln p0) (h1 : n ≤ ov_ln p1) (l0 : ov_ln p0 < 2 ^ 31) (l1 : ov_ln p1 < 2 ^ 31) (hn : n < 2000) : ∃ S', f158 p0 p1 S (nI n) = some S' ∧ ag [p1] S S' ∧ (∀ j, j < n → S' p1 j = S p0 j) ∧ ∀ j, n ≤ j → S' p1 j = S p1 j := by
  unfold f158
  have L : ∃ T, ov_lp (fun s => b158_2 p0 p1 (nI n) s.1 s.2) 2000 ((0 : Int32), S) = some T ∧ (ag [p1] S T ∧ (∀ j, j < n → T p1 j = S p0 j) ∧ ∀ j, n ≤ j → T p1 j = S p1 j) := by
    refine lp_inv (fun (k : Nat) (s : Int32 × ov_S) => s.1 = nI k ∧ ag [p1] S s.2 ∧ (∀ j, j < k → s.2 p1 j = S p0 j) ∧ ∀ j, k ≤ j → s.2 p1 j = S p1 j) (fun (T : ov_S) => ag [p1] S T ∧ (∀ j, j < n → T p1 j = S p0 j) ∧ ∀ j, n ≤ j → T p1 j = S p1 j) n ?_ ?_ 0 _ (by omega) ⟨rfl, ag_rf, fun j h => absurd h (Nat.not_lt_zero _), fun _ _ => rfl⟩ (by omega)
    · rintro k ⟨x, T⟩ hk ⟨rfl, h2, h3, h4⟩
      have h2 : ag [p1] S T := h2
      refine ⟨(nI k + 1, ov_up T p1 k (S p0 k)), ?_, nI_1 k, ag_tr h2 (ag_up (by simp)), fun j hj => ?_, fun j hj => ?_⟩
      · show b158_2 p0 p1 (nI n) (nI k) T = _
        unfold b158_2
        rw [if_neg (nle_nI hk (by omega)), ov_ck_t (ib_nI (by omega) (by omega)), ov_ck_t (ib_nI (by omega) (by omega)), nI_clamp (by omega), h2 p0 (by simpa using hp)]
      · show ov_up T p1 k (S p0 k) p1 j = _
        by_cases z : j = k
        · rw [z, up_eq]
        · rw [up_n2 z]
          exact h3 j (by omega)
      · show ov_up T p1 k (S p0 k) p1 j = _
        rw [up_n2 (by omega)]
        exact h4 j (by omega)
    · rintro ⟨x, T⟩ ⟨rfl, h2⟩
      refine ⟨T, ?_, h2⟩
      show b158_2 p0 p1 (nI n) (nI n) T = _
      unfold b158_2
      rw [if_pos (le_nI (Nat.le_refl _) (by omega))]
  obtain ⟨T, t1, t2⟩ := L
  rw [t1]
  exact ⟨T, rfl, t2⟩
theorem s91 {m l : Nat} (hl : l < 31) (hm : m < 2 ^ 31) : f91 (nI m) (nI l) = some (nI (cm m (2 ^ l))) := by
  unfold f91
  rw [if_neg (nI_l0 (by omega)), show (31 : Int32) = nI 31 from rfl, if_neg (nle_nI hl (by omega)), show nI 31 = (31 : Int32) from rfl, nI_sh1 l hl, nI_cm]
theorem cm_or {m l : Nat} (hm : m < 2 ^ 31) (hl : l < 31) (h : m.testBit l = false) : cm (m ||| 2 ^ l) (2 ^ l) = m := by
  apply Nat.eq_of_testBit_eq
  intro i
  have b : m ||| 2 ^ l < 2 ^ 32 := Nat.or_lt_two_pow (by omega) (Nat.pow_lt_pow_right (by omega) (by omega))
  rw [tb_cm b, Nat.testBit_or, tb_pow]
  by_cases e : l = i
  · rw [← e, h]
    simp
  · rw [decide_eq_false e]
    simp
section
variable {S : ov_S} {G : ov_L2} {P : pl_T} {a : Nat} {g : pg_g} {p : Nat}
theorem s89 (R : pl_R S P) (hv : pg_V (S 55) (pN P) (pF P)) (he : pg_E S 18 (S 55) (pF P)) (em : S 18 4 = S 55 11) {q w fr : Int32} {b : pg_g} (hb : ac_B q w fr b (S 55) (pN P) (pF P) (pL P)) : ∃ S1, f89 18 S q w fr = some S1 ∧ ag [18, 19, 20] S S1 ∧ pg_E S1 18 b (pF P) ∧ S1 18 4 = b 11 := by
  have h6 := r_N6 R
  have h4 := r_F4 R
  have hL := r_L6 R
  obtain ⟨b1, b2⟩ := hb
  have m : S 18 4 - 1 = b 11 := by
    rw [em, b1]
    simp
  rcases b2 with ⟨c1, k, c2, c3, c4, c5⟩ | ⟨c1, l, mm, c2, c3, c4, c5, c6, c7, c8⟩ | ⟨c1, f, c2, c3, c4, c5⟩
  · refine ⟨ov_up (ov_up S (18 + 1) k fr) 18 4 (S 18 4 - 1), ?_, ag_tr (ag_up (by decide)) (ag_up (by decide)), E_mi (E_cg h4 (fun j hj => ?_) (E_pu (by omega) he)), by rw [up_eq, m]⟩
    · unfold f89
      rw [c1, if_pos rfl, c3, s90 R c2, Option.bind_some]
      unfold f89_51
      rw [up_n1 (show 18 ≠ 18 + 1 by decide)]
    · by_cases z : j = k
      · rw [z, pu_eq, c4]
      · rw [pu_ne z, c5 j hj z]
  · refine ⟨ov_up (ov_up S 18 3 (nI mm)) 18 4 (S 18 4 - 1), ?_, ag_tr (ag_up (by decide)) (ag_up (by decide)), E_mi (E_cg h4 (fun j hj => ?_) (E_sd he)), by rw [up_eq, m]⟩
    · unfold f89
      rw [c1, if_neg (by decide), if_pos rfl, c3, he.2.2, c7, s91 (by omega) (Nat.or_lt_two_pow (by omega) (Nat.pow_lt_pow_right (by omega) (by omega))), cm_or (by omega) (by omega) c6, Option.bind_some]
      unfold f89_51
      rw [up_n2 (show 4 ≠ 3 by decide)]
    · by_cases z : j = 6
      · rw [z, pu_eq, c5]
      · rw [pu_ne z, c8 j hj z]
  · refine ⟨ov_up (ov_up S (18 + 2) f fr) 18 4 (S 18 4 - 1), ?_, ag_tr (ag_up (by decide)) (ag_up (by decide)), E_mi (E_cg h4 (fun j hj => ?_) (E_st c2 he)), by rw [up_eq, m]⟩
    · unfold f89
      rw [c1, if_neg (by decide), if_neg (by decide), c3, s7 R c2, Option.bind_some, if_neg (by decide), ov_ck_t (ib_nI (by omega) (by omega)), nI_clamp (by omega)]
      unfold f89_51
      rw [up_n1 (show 18 ≠ 18 + 2 by decide)]
    · by_cases z : j = 7 + f
      · rw [z, pu_eq, c4]
      · rw [pu_ne z, c5 j hj z]
theorem c_undo (h : in_P S G P) : ok2 S G (f85 S) (fun T => f195 T) := by
  have R := h.2.1
  have h6 := r_N6 R
  have h4 := r_F4 R
  obtain ⟨A, A1, A2, A3, A4⟩ := h.2.2.2.1
  obtain ⟨hv, he, em⟩ := h.2.2.1
  cases A with
  | zero =>
    refine o2 h sm_rf sm0 (-3) ?_ ?_
    · unfold f85 f55
      rw [Option.bind_some, A2, if_pos (show nI 0 = 0 from rfl)]
    · show f195 S = _
      unfold f195
      rw [up_n2 (show 27 ≠ 0 by decide), A3, if_pos (show nI 0 = 0 from rfl)]
  | succ B =>
    obtain ⟨v, b⟩ := A4 B (by omega)
    rw [if_pos rfl] at b
    obtain ⟨S1, t1, t2, t3, t4⟩ := s89 R hv he em b
    have nz : ¬ nI (B + 1) = 0 := nI_ne0 (by omega) (by omega)
    have c1 : f85 S = some (nI B, ov_up S1 24 3 (nI B)) := by
      unfold f85 f55 f86 f87 f88
      rw [Option.bind_some, A2, if_neg nz, if_neg (nI_nle (by omega) (by omega)), if_neg (nI_nle (by omega) (by omega)), if_neg (nI_nle (by omega) (by omega)), nI_pred, ov_ck_t (ib_nI (by omega) (by omega)), ov_ck_t (ib_nI (by omega) (by omega)), ov_ck_t (ib_nI (by omega) (by omega)), nI_clamp (by omega), Option.bind_some, Option.bind_some, Option.bind_some, t1, Option.bind_some]
      unfold f92
      rw [t2 24 (by decide), A2, nI_pred]
      have : (if (0 : Int32) < nI B then nI B else 0) = nI B := by
        by_cases z : B = 0
        · rw [z]
          rfl
        · rw [if_pos (show (0 : Int32) < nI B from lt_nI (a := 0) (by omega) (by omega))]
      rw [this, Option.bind_some, Option.bind_some, up_eq]
    have L : ∃ T, ov_lp (fun s => b195_27 s.1 s.2) 2000 ((0 : Int32), ov_up (ov_up (ov_up S1 24 3 (nI B)) 42 0 0) 42 27 (nI B)) = some T ∧ (ag [55] (ov_up (ov_up (ov_up S1 24 3 (nI B)) 42 0 0) 42 27 (nI B)) T ∧ ∀ j, j < 12 → T 55 j = S 58 (12 * B + j)) := by
      refine lp_inv (fun (k : Nat) (s : Int32 × ov_S) => s.1 = nI k ∧ ag [55] (ov_up (ov_up (ov_up S1 24 3 (nI B)) 42 0 0) 42 27 (nI B)) s.2 ∧ ∀ j, j < k → s.2 55 j = S 58 (12 * B + j)) (fun (T : ov_S) => ag [55] (ov_up (ov_up (ov_up S1 24 3 (nI B)) 42 0 0) 42 27 (nI B)) T ∧ ∀ j, j < 12 → T 55 j = S 58 (12 * B + j)) 12 ?_ ?_ 0 _ (by omega) ⟨rfl, ag_rf, fun j h => absurd h (Nat.not_lt_zero _)⟩ (by omega)
      · rintro k ⟨x, T⟩ hk ⟨rfl, h2, h3⟩
        have h2 : ag [55] (ov_up (ov_up (ov_up S1 24 3 (nI B)) 42 0 0) 42 27 (nI B)) T := h2
        refine ⟨(nI k + 1, ov_up T 55 k (S 58 (12 * B + k))), ?_, nI_1 k, ag_tr h2 (ag_up (by decide)), fun j hj => ?_⟩
        · show b195_27 (nI k) T = _
          unfold b195_27
          rw [show (12 : Int32) = nI 12 from rfl, if_neg (nle_nI hk (by omega)), h2 42 (by decide), up_eq, pk_mul, nI_add, ov_ck_t (ib_nI (by omega) (by omega)), ov_ck_t (ib_nI hk (by omega)), nI_clamp (by omega), nI_clamp (by omega), h2 58 (by decide), up_n1 (by decide), up_n1 (by decide), up_n1 (by decide), t2 58 (by decide)]
        · show ov_up T 55 k (S 58 (12 * B + k)) 55 j = _
          by_cases z : j = k
          · rw [z, up_eq]
          · rw [up_n2 z]
            exact h3 j (by omega)
      · rintro ⟨x, T⟩ ⟨rfl, h2⟩
        refine ⟨T, ?_, h2⟩
        show b195_27 (nI 12) T = _
        unfold b195_27
        rw [show (12 : Int32) = nI 12 from rfl, if_pos (le_nI (Nat.le_refl _) (by omega))]
    obtain ⟨T, w1, w2, w3⟩ := L
    have c2 : f195 (ov_up S1 24 3 (nI B)) = some (nI B, T) := by
      unfold f195
      rw [up_n2 (show 27 ≠ 0 by decide), up_n1 (show 42 ≠ 24 by decide), t2 42 (by decide), A3, if_neg nz, nI_pred, w1, Option.bind_some, w2 42 (by decide), up_eq]
    have pp : pq (bk_g S B) (T 55) := fun j hj => (w3 j hj).symm
    have eq : ∀ i, i ≠ 55 → i ≠ 42 → i ≠ 24 → T i = S1 i := fun i i1 i2 i3 => by
      rw [w2 i (by simpa using i1), up_n1 i2, up_n1 i2, up_n1 i3]
    have lf : agL lkN S T := by
      have l1 : agL lkN S S1 := agL_ag t2 (fun i hi => lkN_no i (by revert hi; revert i; decide))
      have l2 : agL lkN S1 (ov_up (ov_up (ov_up S1 24 3 (nI B)) 42 0 0) 42 27 (nI B)) := agL_tr (agL_up (lkN_no 24 (by decide) 3)) (agL_tr (agL_up rfl) (agL_up rfl))
      have l3 : agL lkN (ov_up (ov_up (ov_up S1 24 3 (nI B)) 42 0 0) 42 27 (nI B)) T := agL_ag w2 (fun i hi => lkN_no i (by revert hi; revert i; decide))
      exact agL_tr l1 (agL_tr l2 l3)
    have hnow : in_now T (pN P) (pF P) := by
      refine ⟨V_cg pp h4 v, E_cg h4 (fun j hj => pp j (by omega)) (E_n t3 (eq 18 (by decide) (by decide) (by decide)) (eq 19 (by decide) (by decide) (by decide)) (eq 20 (by decide) (by decide) (by decide))), ?_⟩
      rw [eq 18 (by decide) (by decide) (by decide), t4]
      exact (w3 11 (by omega)).symm
    have hac : in_acts T (pN P) (pF P) (pL P) := by
      refine ⟨B, by omega, ?_, ?_, fun i hi => ?_⟩
      · rw [w2 24 (by decide), up_n1 (by decide), up_n1 (by decide), up_eq]
      · rw [w2 42 (by decide), up_eq]
      · obtain ⟨v2, b2⟩ := A4 i (by omega)
        rw [if_neg (by omega)] at b2
        have e58 : ∀ i, bk_g T i = bk_g S i := fun i => funext fun j => by
          show T 58 _ = S 58 _
          rw [eq 58 (by decide) (by decide) (by decide), t2 58 (by decide)]
        rw [e58, e58, eq 25 (by decide) (by decide) (by decide), eq 26 (by decide) (by decide) (by decide), eq 27 (by decide) (by decide) (by decide), t2 25 (by decide), t2 26 (by decide), t2 27 (by decide)]
        refine ⟨v2, ac_cg (fun _ _ => rfl) ?_ h6 h4 b2⟩
        by_cases z : i + 1 = B
        · rw [if_pos z, z]
          exact pp
        · rw [if_neg z]
          exact fun _ _ => rfl
    refine ⟨nI B, ov_up S1 24 3 (nI B), T, c1, c2, ⟨P, in_N h lf hnow hac⟩, ?_, ?_⟩
    · rw [up_0 (by decide), t2 0 (by decide)]
    · rw [eq 0 (by decide) (by decide) (by decide), t2 0 (by decide)]
theorem lp59 (T : ov_S) {s : Nat} (hs : s < 2) : ∃ T', ov_lp (fun st => b224_26 (nI s) st.1 st.2) 2000 ((0 : Int32), T) = some T' ∧ (ag [59] T T' ∧ (∀ j, j < 12 → T' 59 (12 * s + j) = T 55 j) ∧ ∀ j, (j < 12 * s ∨ 12 * s + 12 ≤ j) → T' 59 j = T 59 j) := by
  refine lp_inv (fun (k : Nat) (st : Int32 × ov_S) => st.1 = nI k ∧ ag [59] T st.2 ∧ (∀ j, j < k → st.2 59 (12 * s + j) = T 55 j) ∧ ∀ j, (j < 12 * s ∨ 12 * s + 12 ≤ j) → st.2 59 j = T 59 j) (fun (T' : ov_S) => ag [59] T T' ∧ (∀ j, j < 12 → T' 59 (12 * s + j) = T 55 j) ∧ ∀ j, (j < 12 * s ∨ 12 * s + 12 ≤ j) → T' 59 j = T 59 j) 12 ?_ ?_ 0 _ (by omega) ⟨rfl, ag_rf, fun j h => absurd h (Nat.not_lt_zero _), fun _ _ => rfl⟩ (by omega)
  · rintro k ⟨x, R⟩ hk ⟨rfl, h2, h3, h4⟩
    have h2 : ag [59] T R := h2
    refine ⟨(nI k + 1, ov_up R 59 (12 * s + k) (T 55 k)), ?_, nI_1 k, ag_tr h2 (ag_up (by decide)), fun j hj => ?_, fun j hj => ?_⟩
    · show b224_26 (nI s) (nI k) R = _
      unfold b224_26
      rw [show (12 : Int32) = nI 12 from rfl, if_neg (nle_nI hk (by omega)), ov_ck_t (ib_nI hk (by omega)), pk_mul, nI_add, ov_ck_t (ib_nI (by omega) (by omega)), nI_clamp (by omega), nI_clamp (by omega), h2 55 (by decide)]
    · show ov_up R 59 (12 * s + k) (T 55 k) 59 (12 * s + j) = _
      by_cases z : j = k
      · rw [z, up_eq]
      · rw [up_n2 (by omega)]
        exact h3 j (by omega)
    · show ov_up R 59 (12 * s + k) (T 55 k) 59 j = _
      rw [up_n2 (by omega)]
      exact h4 j hj
  · rintro ⟨x, R⟩ ⟨rfl, h2⟩
    refine ⟨R, ?_, h2⟩
    show b224_26 (nI s) (nI 12) R = _
    unfold b224_26
    rw [show (12 : Int32) = nI 12 from rfl, if_pos (le_nI (Nat.le_refl _) (by omega))]
theorem lp55 (T : ov_S) {s : Nat} (hs : s < 2) : ∃ T', ov_lp (fun st => b225_31 (nI s) st.1 st.2) 2000 ((0 : Int32), T) = some T' ∧ (ag [55] T T' ∧ ∀ j, j < 12 → T' 55 j = T 59 (12 * s + j)) := by
  refine lp_inv (fun (k : Nat) (st : Int32 × ov_S) => st.1 = nI k ∧ ag [55] T st.2 ∧ ∀ j, j < k → st.2 55 j = T 59 (12 * s + j)) (fun (T' : ov_S) => ag [55] T T' ∧ ∀ j, j < 12 → T' 55 j = T 59 (12 * s + j)) 12 ?_ ?_ 0 _ (by omega) ⟨rfl, ag_rf, fun j h => absurd h (Nat.not_lt_zero _)⟩ (by omega)
  · rintro k ⟨x, R⟩ hk ⟨rfl, h2, h3⟩
    have h2 : ag [55] T R := h2
    refine ⟨(nI k + 1, ov_up R 55 k (T 59 (12 * s + k))), ?_, nI_1 k, ag_tr h2 (ag_up (by decide)), fun j hj => ?_⟩
    · show b225_31 (nI s) (nI k) R = _
      unfold b225_31
      rw [show (12 : Int32) = nI 12 from rfl, if_neg (nle_nI hk (by omega)), pk_mul, nI_add, ov_ck_t (ib_nI (by omega) (by omega)), ov_ck_t (ib_nI hk (by omega)), nI_clamp (by omega), nI_clamp (by omega), h2 59 (by decide)]
    · show ov_up R 55 k (T 59 (12 * s + k)) 55 j = _
      by_cases z : j = k
      · rw [z, up_eq]
      · rw [up_n2 z]
        exact h3 j (by omega)
  · rintro ⟨x, R⟩ ⟨rfl, h2⟩
    refine ⟨R, ?_, h2⟩
    show b225_31 (nI s) (nI 12) R = _
    unfold b225_31
    rw [show (12 : Int32) = nI 12 from rfl, if_pos (le_nI (Nat.le_refl _) (by omega))]
theorem lkK_36 : ∀ i, i ∈ [36, 37, 38, 39, 40, 41, 59, 60] → ∀ j, lkK i j = false := by
  intro i hi j
  simp only [List.mem_cons, List.not_mem_nil, or_false] at hi
  rcases hi with h | h | h | h | h | h | h | h <;> (rw [h]; rfl)
theorem out2f {x : Int32} (hx : x < 0 ∨ nI 2 ≤ x) {A B : Option (Int32 × ov_S)} : (if x < 0 then B else (if x < (2 : Int32) then A else B)) = B := by
  by_cases h0 : x < 0
  · rw [if_pos h0]
  · rw [if_neg h0, if_neg (show ¬ x < (2 : Int32) from Int32.not_lt.mpr (hx.resolve_left h0))]
/-- one slot kept -/
theorem keep_go (h : in_P S G P) {s : Nat} (hs : s < 2) {S1 : ov_S} (t1 : f97 (36 + 3 * s) 18 S = some S1) : ∃ S2, f224 (ov_up S1 1 10 (S1 1 10 ||| nI (2 ^ s))) (nI s) = some (S 55 11, S2) ∧ S1 18 4 = S 55 11 ∧ in_P S2 G P ∧ S1 0 = S 0 ∧ S2 0 = S 0 := by
  have R := h.2.1
  have h4 := r_F4 R
  obtain ⟨hv, he, em⟩ := h.2.2.1
  obtain ⟨b0, b1, k1, k2, k3, k4, k5⟩ := h.2.2.2.2.1
  obtain ⟨S1', q1, q2, q3, q4⟩ := s97 (S := S) (a := 36 + 3 * s) (b := 18) (by omega)
  rw [t1] at q1
  obtain rfl : S1 = S1' := Option.some.inj q1
  have l1 : ∀ i, i < 36 ∨ 42 ≤ i → S1 i = S i := fun i hi => q2 i (by simp; omega)
  obtain ⟨T', w1, w2, w3, w4⟩ := lp59 (ov_up (ov_up (ov_up S1 1 10 (S1 1 10 ||| nI (2 ^ s))) 42 0 0) 60 s 1) hs
  have e55 : (ov_up (ov_up (ov_up S1 1 10 (S1 1 10 ||| nI (2 ^ s))) 42 0 0) 60 s 1) 55 = S 55 := by
    rw [up_n1 (by decide), up_n1 (by decide), up_n1 (by decide), l1 55 (by omega)]
  have e59 : (ov_up (ov_up (ov_up S1 1 10 (S1 1 10 ||| nI (2 ^ s))) 42 0 0) 60 s 1) 59 = S 59 := by
    rw [up_n1 (by decide), up_n1 (by decide), up_n1 (by decide), l1 59 (by omega)]
  rw [e55] at w3
  rw [e59] at w4
  have c2 : f224 (ov_up S1 1 10 (S1 1 10 ||| nI (2 ^ s))) (nI s) = some (S 55 11, T') := by
    unfold f224
    rw [show (1 : Int64) = (1 : Int32).toInt64 from rfl, s144y (n := 1) 1 rfl (by omega) (by omega), Option.bind_some, if_neg (by decide), ov_ck_t (ib_nI hs (by omega)), nI_clamp (by omega), w1, Option.bind_some, w2 55 (by decide), e55]
    rfl
  refine ⟨T', c2, by rw [l1 18 (by omega), em], in_K h ?_ ?_, l1 0 (by omega), ?_⟩
  · have a1 : agL lkK S S1 := agL_ag q2 (fun i hi => lkK_36 i (by
      simp only [List.mem_cons, List.not_mem_nil, or_false] at hi ⊢
      omega))
    have a2 : agL lkK S1 (ov_up (ov_up (ov_up S1 1 10 (S1 1 10 ||| nI (2 ^ s))) 42 0 0) 60 s 1) := agL_tr (agL_up rfl) (agL_tr (agL_up rfl) (agL_up (lkK_36 60 (by decide) s)))
    have a3 : agL lkK (ov_up (ov_up (ov_up S1 1 10 (S1 1 10 ||| nI (2 ^ s))) 42 0 0) 60 s 1) T' := agL_ag w2 (fun i hi => lkK_36 i (by revert hi; revert i; decide))
    exact agL_tr a1 (agL_tr a2 a3)
  · have f36 : ∀ i, 36 ≤ i → i < 42 → T' i = S1 i := fun i i1 i2 => by
      rw [w2 i (by simp; omega), up_n1 (by omega), up_n1 (by omega), up_n1 (by omega)]
    have f110 : T' 1 10 = nI (((if b0 then 1 else 0) + (if b1 then 2 else 0)) ||| 2 ^ s) := by
      rw [w2 1 (by decide), up_n1 (by decide), up_n1 (by decide), up_eq, l1 1 (by omega), k1, nI_or]
    have f60 : ∀ j, T' 60 j = if j = s then 1 else S 60 j := fun j => by
      rw [w2 60 (by decide), up_pu, up_n1 (by decide), up_n1 (by decide), l1 60 (by omega)]
      rfl
    have new : pg_V (kp_g T' s) (pN P) (pF P) ∧ pg_E T' (36 + 3 * s) (kp_g T' s) (pF P) ∧ T' (36 + 3 * s) 4 = kp_g T' s 11 := by
      have pp : pq (S 55) (kp_g T' s) := fun j hj => (w3 j hj).symm
      refine ⟨V_cg pp h4 hv, E_cg h4 (fun j hj => pp j (by omega)) (E_n (q3 _ _ he) (f36 _ (by omega) (by omega)) (f36 _ (by omega) (by omega)) (f36 _ (by omega) (by omega))), ?_⟩
      rw [f36 _ (by omega) (by omega), q4, em]
      exact pp 11 (by omega)
    have old : ∀ o, o < 2 → o ≠ s → (pg_V (kp_g S o) (pN P) (pF P) ∧ pg_E S (36 + 3 * o) (kp_g S o) (pF P) ∧ S (36 + 3 * o) 4 = kp_g S o 11) → pg_V (kp_g T' o) (pN P) (pF P) ∧ pg_E T' (36 + 3 * o) (kp_g T' o) (pF P) ∧ T' (36 + 3 * o) 4 = kp_g T' o 11 := by
      rintro o o1 o2 ⟨z1, z2, z3⟩
      have pp : pq (kp_g S o) (kp_g T' o) := fun j hj => (w4 (12 * o + j) (by omega)).symm
      have nn : ∀ i, 36 + 3 * o ≤ i → i < 39 + 3 * o → T' i = S i := fun i i1 i2 => by
        rw [f36 i (by omega) (by omega), q2 i (by simp; omega)]
      refine ⟨V_cg pp h4 z1, E_cg h4 (fun j hj => pp j (by omega)) (E_n z2 (nn _ (by omega) (by omega)) (nn _ (by omega) (by omega)) (nn _ (by omega) (by omega))), ?_⟩
      rw [nn _ (by omega) (by omega), z3]
      exact pp 11 (by omega)
    have : s = 0 ∨ s = 1 := by omega
    rcases this with rfl | rfl
    · refine ⟨true, b1, ?_, ?_, ?_, fun _ => new, fun t => old 1 (by decide) (by decide) (k5 t)⟩
      · rw [f110]
        cases b0 <;> cases b1 <;> rfl
      · rw [f60]
        rfl
      · rw [f60]
        exact k3
    · refine ⟨b0, true, ?_, ?_, ?_, fun t => old 0 (by decide) (by decide) (k4 t), fun _ => new⟩
      · rw [f110]
        cases b0 <;> cases b1 <;> rfl
      · rw [f60]
        exact k2
      · rw [f60]
        rfl
  · rw [w2 0 (by decide), up_0 (by decide), up_0 (by decide), up_0 (by decide), l1 0 (by omega)]
theorem c_keep (h : in_P S G P) (x : Int32) : ok2 S G (f140 S x) (fun T => f224 T x) := by
  have out : (x < 0 ∨ nI 2 ≤ x) → ok2 S G (f140 S x) (fun T => f224 T x) := fun hx => by
    refine o2 h sm_rf sm0 (-1) ?_ ?_
    · unfold f140
      exact out2f hx
    · show f224 S x = _
      unfold f224
      rw [show (1 : Int64) = (1 : Int32).toInt64 from rfl, s144z (n := 1) 1 rfl (by omega) hx]
      rfl
  rcases pk_ix x (n := 2) (by omega) with hx | hx | ⟨s, hs, rfl⟩
  · exact out (.inl hx)
  · exact out (.inr hx)
  obtain ⟨b0, b1, k1, k2, k3, k4, k5⟩ := h.2.2.2.2.1
  obtain ⟨S1, q1, q2, q3, q4⟩ := s97 (S := S) (a := 36 + 3 * s) (b := 18) (by omega)
  obtain ⟨S2, w1, w2, w3, w4, w5⟩ := keep_go h hs q1
  have e110 : S1 1 10 = nI ((if b0 then 1 else 0) + (if b1 then 2 else 0)) := by rw [q2 1 (by simp; omega)]; exact k1
  have c27 : f27 (S1 1 10) (nI s) = some (S1 1 10 ||| nI (2 ^ s)) := by rw [e110, s27 (by omega), nI_or]
  have c54 : f54 18 (ov_up S1 1 10 (S1 1 10 ||| nI (2 ^ s))) = some (S 55 11) := by
    unfold f54
    rw [up_n1 (by decide), w2]
  have c1 : f140 S (nI s) = some (S 55 11, ov_up S1 1 10 (S1 1 10 ||| nI (2 ^ s))) := by
    unfold f140
    rw [if_neg (nI_l0 (by omega)), show (2 : Int32) = nI 2 from rfl, if_pos (lt_nI hs (by omega))]
    have : s = 0 ∨ s = 1 := by omega
    rcases this with rfl | rfl
    · rw [if_pos (show nI 0 = 0 from rfl), show (36 : Nat) = 36 + 3 * 0 from rfl, q1, Option.bind_some, c27, Option.bind_some, c54]
      rfl
    · rw [if_neg (show ¬ nI 1 = 0 by decide), if_pos (show nI 1 = 1 from rfl), show (39 : Nat) = 36 + 3 * 1 from rfl, q1, Option.bind_some, c27, Option.bind_some, c54]
      rfl
  exact ⟨S 55 11, _, S2, c1, w1, ⟨P, w3⟩, by rw [up_0 (by decide), w4], w5⟩
theorem again_go (h : in_P S G P) {s : Nat} (hs : s < 2) {S1 : ov_S} (t1 : f97 18 (36 + 3 * s) S = some S1) (hk : pg_V (kp_g S s) (pN P) (pF P) ∧ pg_E S (36 + 3 * s) (kp_g S s) (pF P) ∧ S (36 + 3 * s) 4 = kp_g S s 11) (h60 : S 60 s = 1) : ∃ S2, f225 (ov_up S1 24 3 0) (nI s) = some (kp_g S s 11, S2) ∧ S1 18 4 = kp_g S s 11 ∧ in_P S2 G P ∧ S1 0 = S 0 ∧ S2 0 = S 0 := by
  have R := h.2.1
  have h4 := r_F4 R
  obtain ⟨z1, z2, z3⟩ := hk
  obtain ⟨S1', q1, q2, q3, q4⟩ := s97 (S := S) (a := 18) (b := 36 + 3 * s) (by omega)
  rw [t1] at q1
  obtain rfl : S1 = S1' := Option.some.inj q1
  obtain ⟨T', w1, w2, w3⟩ := lp55 (ov_up (ov_up S1 24 3 0) 42 0 0) hs
  rw [up_n1 (show 59 ≠ 42 by decide), up_n1 (show 59 ≠ 24 by decide), q2 59 (by decide)] at w3
  have c2 : f225 (ov_up S1 24 3 0) (nI s) = some (kp_g S s 11, ov_up T' 42 27 0) := by
    unfold f225
    rw [show (1 : Int64) = (1 : Int32).toInt64 from rfl, s144y (n := 1) 1 rfl (by omega) (by omega), Option.bind_some, if_neg (by decide), ov_ck_t (ib_nI hs (by omega)), nI_clamp (by omega), up_n1 (show 60 ≠ 42 by decide), up_n1 (show 60 ≠ 24 by decide), q2 60 (by decide), h60, if_neg (by decide), w1, Option.bind_some, up_n1 (show 55 ≠ 42 by decide)]
    show some (T' 55 11, _) = _
    rw [w3 11 (by omega)]
    rfl
  have pp : pq (kp_g S s) (T' 55) := fun j hj => (w3 j hj).symm
  have eq : ∀ i, i ≠ 55 → i ≠ 42 → i ≠ 24 → (ov_up T' 42 27 0) i = S1 i := fun i i1 i2 i3 => by
    rw [up_n1 i2, w2 i (by simpa using i1), up_n1 i2, up_n1 i3]
  have e55 : (ov_up T' 42 27 0) 55 = T' 55 := up_n1 (by decide)
  refine ⟨ov_up T' 42 27 0, c2, by rw [q4, z3], in_N h ?_ ?_ ?_, q2 0 (by decide), by rw [eq 0 (by decide) (by decide) (by decide), q2 0 (by decide)]⟩
  · have a1 : agL lkN S S1 := agL_ag q2 (fun i hi => lkN_no i (by revert hi; revert i; decide))
    have a2 : agL lkN S1 (ov_up (ov_up S1 24 3 0) 42 0 0) := agL_tr (agL_up (lkN_no 24 (by decide) 3)) (agL_up rfl)
    have a3 : agL lkN (ov_up (ov_up S1 24 3 0) 42 0 0) T' := agL_ag w2 (fun i hi => lkN_no i (by revert hi; revert i; decide))
    exact agL_tr a1 (agL_tr a2 (agL_tr a3 (agL_up rfl)))
  · refine ⟨by rw [e55]; exact V_cg pp h4 z1, by rw [e55]; exact E_cg h4 (fun j hj => pp j (by omega)) (E_n (q3 _ _ z2) (eq 18 (by decide) (by decide) (by decide)) (eq 19 (by decide) (by decide) (by decide)) (eq 20 (by decide) (by decide) (by decide))), ?_⟩
    rw [e55, eq 18 (by decide) (by decide) (by decide), q4, z3]
    exact pp 11 (by omega)
  · refine ⟨0, by omega, ?_, up_eq, fun i hi => absurd hi (Nat.not_lt_zero _)⟩
    rw [up_n1 (by decide), w2 24 (by decide), up_n1 (by decide), up_eq]
    rfl
theorem c_again (h : in_P S G P) (x : Int32) : ok2 S G (f141 S x) (fun T => f225 T x) := by
  have out : (x < 0 ∨ nI 2 ≤ x) → ok2 S G (f141 S x) (fun T => f225 T x) := fun hx => by
    refine o2 h sm_rf sm0 (-1) ?_ ?_
    · unfold f141
      exact out2f hx
    · show f225 S x = _
      unfold f225
      rw [show (1 : Int64) = (1 : Int32).toInt64 from rfl, s144z (n := 1) 1 rfl (by omega) hx]
      rfl
  rcases pk_ix x (n := 2) (by omega) with hx | hx | ⟨s, hs, rfl⟩
  · exact out (.inl hx)
  · exact out (.inr hx)
  obtain ⟨b0, b1, k1, k2, k3, k4, k5⟩ := h.2.2.2.2.1
  obtain ⟨bs, e1, e2, e3⟩ : ∃ bs : Bool, f23 (S 1 10) (nI s) = some (if bs then 1 else 0) ∧ S 60 s = (if bs then 1 else 0) ∧ (bs = true → pg_V (kp_g S s) (pN P) (pF P) ∧ pg_E S (36 + 3 * s) (kp_g S s) (pF P) ∧ S (36 + 3 * s) 4 = kp_g S s 11) := by
    have : s = 0 ∨ s = 1 := by omega
    rcases this with rfl | rfl
    · exact ⟨b0, by rw [k1]; cases b0 <;> cases b1 <;> decide, k2, k4⟩
    · exact ⟨b1, by rw [k1]; cases b0 <;> cases b1 <;> decide, k3, k5⟩
  have c0 : f141 S (nI s) = (if (if bs then (1 : Int32) else 0) = 0 then some ((-3 : Int32), S) else (f97 18 (36 + 3 * s) S).bind fun y3 => (f31 y3).bind fun y4 => (f54 18 y4).bind fun y5 => some (y5, y4)) := by
    unfold f141
    rw [if_neg (nI_l0 (by omega)), show (2 : Int32) = nI 2 from rfl, if_pos (lt_nI hs (by omega)), e1, Option.bind_some]
    have : s = 0 ∨ s = 1 := by omega
    rcases this with rfl | rfl
    · rw [if_pos (show nI 0 = 0 from rfl)]
    · rw [if_neg (show ¬ nI 1 = 0 by decide), if_pos (show nI 1 = 1 from rfl)]
  cases bs with
  | false =>
    refine o2 h sm_rf sm0 (-3) (by rw [c0]; rfl) ?_
    show f225 S (nI s) = _
    unfold f225
    rw [show (1 : Int64) = (1 : Int32).toInt64 from rfl, s144y (n := 1) 1 rfl (by omega) (by omega), Option.bind_some, if_neg (by decide), ov_ck_t (ib_nI hs (by omega)), nI_clamp (by omega), up_n1 (show 60 ≠ 42 by decide), e2]
    rfl
  | true =>
    obtain ⟨S1, q1, q2, q3, q4⟩ := s97 (S := S) (a := 18) (b := 36 + 3 * s) (by omega)
    obtain ⟨S2, w1, w2, w3, w4, w5⟩ := again_go h hs q1 (e3 rfl) e2
    have c1 : f141 S (nI s) = some (kp_g S s 11, ov_up S1 24 3 0) := by
      rw [c0, if_neg (by decide), q1, Option.bind_some]
      unfold f31 f54
      rw [Option.bind_some, Option.bind_some, up_n1 (by decide), w2]
    exact ⟨_, _, S2, c1, w1, ⟨P, w3⟩, by rw [up_0 (by decide), w4], w5⟩
theorem c_seed (h : in_P S G P) (v : Int64) : ∃ r S2 G1 G2, f138 S G v = some (r, S, G1) ∧ f222 S G1 v = some (r, S2, G2) ∧ in_P S2 G2 P ∧ S2 0 = S 0 := by
  obtain ⟨h1, h2, h3, h4, h5, h6, h7⟩ := h
  refine ⟨G 1, ov_up S 42 0 0, ov_ug G 1 v, ov_ug (ov_ug G 1 v) 42 v, rfl, ?_, ?_, up_0 (by decide)⟩
  · unfold f222
    rw [show ov_ug G 1 v 42 = G 42 from rfl, h7]
  · obtain ⟨g1, g2, g3, g4, g5, g6, g7⟩ := in_t0 (S := S) (G := G) ⟨h1, h2, h3, h4, h5, h6, h7⟩
    exact ⟨g1, g2, g3, g4, g5, g6, rfl⟩
end
