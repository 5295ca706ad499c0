-- ACTS AND THE BOOK
def pq (g g' : pg_g) : Prop := ∀ j, j < 12 → g j = g' j
theorem V_cg {g g' : pg_g} {N F : Nat} (e : pq g g') (h4 : F ≤ 4) (hv : pg_V g N F) : pg_V g' N F := by
  obtain ⟨v1, v2, v3, v4, v5, v6⟩ := hv
  refine ⟨fun j hj => ?_, fun j h1 h2 => ?_, fun f hf => ?_, ?_, fun i j hi hj ne q => ?_, fun i f hi hf q => ?_⟩
  · rw [← e j (by omega)]
    exact v1 j hj
  · rw [← e j (by omega)]
    exact v2 j h1 h2
  · rw [← e _ (by omega)]
    exact v3 f hf
  · rw [← e 6 (by omega)]
    exact v4
  · rw [← e i (by omega)] at q ⊢
    rw [← e j (by omega)] at q
    exact v5 i j hi hj ne q
  · rw [← e i (by omega), ← e _ (show 7 + f < 12 by omega)] at q
    exact v6 i f hi hf q
theorem ac_cg {q w fr : Int32} {g g' h h' : pg_g} {N F L : Nat} (e : pq g g') (e2 : pq h h') (h6 : N ≤ 6) (h4 : F ≤ 4) (b : ac_B q w fr g h N F L) : ac_B q w fr g' h' N F L := by
  obtain ⟨b1, b2⟩ := b
  refine ⟨by rw [← e 11 (by omega), ← e2 11 (by omega)]; exact b1, ?_⟩
  rcases b2 with ⟨c1, k, c2, c3, c4, c5⟩ | ⟨c1, l, m, c2, c3, c4, c5, c6, c7, c8⟩ | ⟨c1, f, c2, c3, c4, c5⟩
  · exact .inl ⟨c1, k, c2, c3, by rw [← e k (by omega)]; exact c4, fun j hj ne => by rw [← e j (by omega), ← e2 j (by omega)]; exact c5 j hj ne⟩
  · exact .inr (.inl ⟨c1, l, m, c2, c3, c4, by rw [← e 6 (by omega)]; exact c5, c6, by rw [← e2 6 (by omega)]; exact c7, fun j hj ne => by rw [← e j (by omega), ← e2 j (by omega)]; exact c8 j hj ne⟩)
  · exact .inr (.inr ⟨c1, f, c2, c3, by rw [← e _ (show 7 + f < 12 by omega)]; exact c4, fun j hj ne => by rw [← e j (by omega), ← e2 j (by omega)]; exact c5 j hj ne⟩)
theorem ac_on {S Sf : ov_S} {N F L A : Nat} {q w fr : Int32} (hA : A ≤ 14) (h6 : N ≤ 6) (h4 : F ≤ 4) (hi : ∀ i, i < A → pg_V (bk_g S i) N F ∧ ac_B (S 25 i) (S 26 i) (S 27 i) (bk_g S i) (if i + 1 = A then S 55 else bk_g S (i + 1)) N F L) (hv : pg_V (S 55) N F)
    (c1 : Sf 24 3 = nI (min A 13 + 1)) (c2 : Sf 42 27 = nI (min A 13 + 1)) (c3 : ∀ i, i < min A 13 → Sf 25 i = S 25 (i + (A - min A 13)) ∧ Sf 26 i = S 26 (i + (A - min A 13)) ∧ Sf 27 i = S 27 (i + (A - min A 13))) (c4 : Sf 25 (min A 13) = q ∧ Sf 26 (min A 13) = w ∧ Sf 27 (min A 13) = fr)
    (c5 : ∀ i, i < min A 13 → ∀ j, j < 12 → Sf 58 (12 * i + j) = S 58 (12 * (i + (A - min A 13)) + j)) (c6 : ∀ j, j < 12 → Sf 58 (12 * min A 13 + j) = S 55 j) (hb : ac_B q w fr (S 55) (Sf 55) N F L) : in_acts Sf N F L := by
  refine ⟨min A 13 + 1, by omega, c1, c2, fun i hlt => ?_⟩
  by_cases e : i = min A 13
  · rw [if_pos (by omega), e, c4.1, c4.2.1, c4.2.2]
    have pp : pq (S 55) (bk_g Sf (min A 13)) := fun j hj => (c6 j hj).symm
    exact ⟨V_cg pp h4 hv, ac_cg pp (fun _ _ => rfl) h6 h4 hb⟩
  · have il : i < min A 13 := by omega
    obtain ⟨v, b⟩ := hi (i + (A - min A 13)) (by omega)
    obtain ⟨d1, d2, d3⟩ := c3 i il
    have pp : pq (bk_g S (i + (A - min A 13))) (bk_g Sf i) := fun j hj => (c5 i il j hj).symm
    rw [if_neg (by omega), d1, d2, d3]
    refine ⟨V_cg pp h4 v, ac_cg pp ?_ h6 h4 b⟩
    intro j hj
    by_cases z : i + (A - min A 13) + 1 = A
    · rw [if_pos z]
      have : i + 1 = min A 13 := by omega
      show S 55 j = Sf 58 (12 * (i + 1) + j)
      rw [this, c6 j hj]
    · rw [if_neg z]
      show S 58 (12 * (i + (A - min A 13) + 1) + j) = Sf 58 (12 * (i + 1) + j)
      rw [c5 (i + 1) (by omega) j hj]
      congr 1
      omega
section
variable {S : ov_S}
theorem s75_13 {A : Nat} {q w fr : Int32} (hA : A < 14) (e : S 24 3 = nI A) : f75_13 S q w fr = some (ov_up (ov_up (ov_up (ov_up S 25 A q) 26 A w) 27 A fr) 24 3 (nI (A + 1))) := by
  show ov_ck (ov_ibb (S 24 3) 14) (ov_ck (ov_ibb (S 24 3) 14) (ov_ck (ov_ibb (S 24 3) 14) (some (ov_up (ov_up (ov_up (ov_up S 25 (S 24 3).toNatClampNeg q) 26 (S 24 3).toNatClampNeg w) 27 (S 24 3).toNatClampNeg fr) 24 3 (S 24 3 + 1))))) = _
  rw [e, ov_ck_t (ib_nI hA (by omega)), ov_ck_t (ib_nI hA (by omega)), ov_ck_t (ib_nI hA (by omega)), nI_clamp (by omega), nI_1]
theorem s76 : f76 S = some (ov_cp (ov_cp (ov_cp (ov_up S 24 3 13) 25 1 25 0 13) 26 1 26 0 13) 27 1 27 0 13) := rfl
theorem cp_in {S : ov_S} {a0 sp a dp n j : Nat} (h : dp ≤ j ∧ j < dp + n) : ov_cp S a0 sp a dp n a j = S a0 (sp + (j - dp)) := if_pos ⟨rfl, h⟩
theorem cp_n1 {S : ov_S} {a0 sp a dp n i : Nat} (h : i ≠ a) : ov_cp S a0 sp a dp n i = S i := funext fun j => if_neg (fun q => h q.1)
theorem cp_out {S : ov_S} {a0 sp a dp n i j : Nat} (h : ¬ (dp ≤ j ∧ j < dp + n)) : ov_cp S a0 sp a dp n i j = S i j := if_neg (fun q => h q.2)
theorem s75 {A : Nat} {q w fr : Int32} (hA : A ≤ 14) (e : S 24 3 = nI A) : ∃ S', f75 S q w fr = some S' ∧ ag [24, 25, 26, 27] S S' ∧ S' 24 3 = nI (min A 13 + 1) ∧ (∀ i, i < min A 13 → S' 25 i = S 25 (i + (A - min A 13)) ∧ S' 26 i = S 26 (i + (A - min A 13)) ∧ S' 27 i = S 27 (i + (A - min A 13))) ∧ S' 25 (min A 13) = q ∧ S' 26 (min A 13) = w ∧ S' 27 (min A 13) = fr := by
  have lst : ∀ (T : ov_S) (B : Nat), ag [24, 25, 26, 27] T (ov_up (ov_up (ov_up (ov_up T 25 B q) 26 B w) 27 B fr) 24 3 (nI (B + 1))) ∧ (ov_up (ov_up (ov_up (ov_up T 25 B q) 26 B w) 27 B fr) 24 3 (nI (B + 1))) 24 3 = nI (B + 1) ∧ (∀ i, (ov_up (ov_up (ov_up (ov_up T 25 B q) 26 B w) 27 B fr) 24 3 (nI (B + 1))) 25 i = (if i = B then q else T 25 i) ∧ (ov_up (ov_up (ov_up (ov_up T 25 B q) 26 B w) 27 B fr) 24 3 (nI (B + 1))) 26 i = (if i = B then w else T 26 i) ∧ (ov_up (ov_up (ov_up (ov_up T 25 B q) 26 B w) 27 B fr) 24 3 (nI (B + 1))) 27 i = (if i = B then fr else T 27 i)) := by
    intro T B
    refine ⟨ag_tr (ag_up (by decide)) (ag_tr (ag_up (by decide)) (ag_tr (ag_up (by decide)) (ag_up (by decide)))), up_eq, fun i => ⟨?_, ?_, ?_⟩⟩
    · rw [up_n1 (by decide), up_n1 (by decide), up_n1 (by decide), up_pu]
      rfl
    · rw [up_n1 (by decide), up_n1 (by decide), up_pu, up_n1 (by decide)]
      rfl
    · rw [up_n1 (by decide), up_pu, up_n1 (by decide), up_n1 (by decide)]
      rfl
  unfold f75
  rw [e]
  by_cases h : A < 14
  · rw [show (14 : Int32) = nI 14 from rfl, if_pos (lt_nI h (by omega)), s75_13 h e]
    have m : min A 13 = A := by omega
    rw [m, Nat.sub_self]
    obtain ⟨l1, l2, l3⟩ := lst S A
    refine ⟨_, rfl, l1, l2, fun i hi => ?_, ?_⟩
    · obtain ⟨p1, p2, p3⟩ := l3 i
      rw [p1, p2, p3, if_neg (by omega), if_neg (by omega), if_neg (by omega)]
      exact ⟨rfl, rfl, rfl⟩
    · obtain ⟨p1, p2, p3⟩ := l3 A
      rw [p1, p2, p3, if_pos rfl, if_pos rfl, if_pos rfl]
      exact ⟨rfl, rfl, rfl⟩
  · have hA14 : A = 14 := by omega
    subst hA14
    rw [show (14 : Int32) = nI 14 from rfl, if_neg (nlt_nI (Nat.le_refl _) (by omega)), s76, Option.bind_some]
    have e13 : (ov_cp (ov_cp (ov_cp (ov_up S 24 3 13) 25 1 25 0 13) 26 1 26 0 13) 27 1 27 0 13) 24 3 = nI 13 := by
      rw [cp_n1 (by decide), cp_n1 (by decide), cp_n1 (by decide), up_eq]
      rfl
    have a13 : ag [24, 25, 26, 27] S (ov_cp (ov_cp (ov_cp (ov_up S 24 3 13) 25 1 25 0 13) 26 1 26 0 13) 27 1 27 0 13) := fun i hi => by
      simp only [List.mem_cons, List.not_mem_nil, or_false, not_or] at hi
      rw [cp_n1 (by omega), cp_n1 (by omega), cp_n1 (by omega), up_n1 (by omega)]
    have r13 : ∀ i, i < 13 → (ov_cp (ov_cp (ov_cp (ov_up S 24 3 13) 25 1 25 0 13) 26 1 26 0 13) 27 1 27 0 13) 25 i = S 25 (i + 1) ∧ (ov_cp (ov_cp (ov_cp (ov_up S 24 3 13) 25 1 25 0 13) 26 1 26 0 13) 27 1 27 0 13) 26 i = S 26 (i + 1) ∧ (ov_cp (ov_cp (ov_cp (ov_up S 24 3 13) 25 1 25 0 13) 26 1 26 0 13) 27 1 27 0 13) 27 i = S 27 (i + 1) := by
      intro i hi
      refine ⟨?_, ?_, ?_⟩
      · rw [cp_n1 (by decide), cp_n1 (by decide), cp_in (by omega), up_n1 (by decide)]
        congr 1
        omega
      · rw [cp_n1 (by decide), cp_in (by omega), cp_n1 (by decide), up_n1 (by decide)]
        congr 1
        omega
      · rw [cp_in (by omega), cp_n1 (by decide), cp_n1 (by decide), up_n1 (by decide)]
        congr 1
        omega
    generalize ov_cp (ov_cp (ov_cp (ov_up S 24 3 13) 25 1 25 0 13) 26 1 26 0 13) 27 1 27 0 13 = T at e13 a13 r13 ⊢
    rw [s75_13 (by omega) e13]
    obtain ⟨l1, l2, l3⟩ := lst T 13
    refine ⟨_, rfl, ag_tr a13 l1, l2, fun i hi => ?_, ?_⟩
    · obtain ⟨p1, p2, p3⟩ := l3 i
      obtain ⟨t1, t2, t3⟩ := r13 i (by omega)
      rw [p1, p2, p3, if_neg (by omega), if_neg (by omega), if_neg (by omega), t1, t2, t3]
      exact ⟨rfl, rfl, rfl⟩
    · obtain ⟨p1, p2, p3⟩ := l3 13
      exact ⟨by rw [show min 14 13 = 13 from rfl, p1, if_pos rfl], by rw [show min 14 13 = 13 from rfl, p2, if_pos rfl], by rw [show min 14 13 = 13 from rfl, p3, if_pos rfl]⟩
theorem s187_49 {A : Nat} (hA : A < 14) (e : S 42 27 = nI A) : ∃ S', f187_49 S = some S' ∧ ag [42, 55, 58] S S' ∧ S' 42 27 = nI (A + 1) ∧ (∀ j, j ≠ 27 → S' 42 j = S 42 j) ∧ S' 55 = pu (S 55) 11 (S 55 11 + 1) ∧ (∀ j, j < 12 * A → S' 58 j = S 58 j) ∧ ∀ j, j < 12 → S' 58 (12 * A + j) = S 55 j := by
  have L : ∃ T, ov_lp (fun s => b187_51 s.1 s.2) 2000 ((0 : Int32), S) = some T ∧ (ag [58] S T ∧ (∀ j, j < 12 * A → T 58 j = S 58 j) ∧ ∀ j, j < 12 → T 58 (12 * A + j) = S 55 j) := by
    refine lp_inv (fun (k : Nat) (s : Int32 × ov_S) => s.1 = nI k ∧ ag [58] S s.2 ∧ (∀ j, j < 12 * A → s.2 58 j = S 58 j) ∧ ∀ j, j < k → s.2 58 (12 * A + j) = S 55 j) (fun (T : ov_S) => ag [58] S T ∧ (∀ j, j < 12 * A → T 58 j = S 58 j) ∧ ∀ j, j < 12 → T 58 (12 * A + j) = S 55 j) 12 ?_ ?_ 0 _ (by omega) ⟨rfl, ag_rf, fun _ _ => rfl, fun j h => absurd h (Nat.not_lt_zero _)⟩ (by omega)
    · rintro k ⟨x, R⟩ hk ⟨rfl, h2, h3, h4⟩
      have h2 : ag [58] S R := h2
      refine ⟨(nI k + 1, ov_up R 58 (12 * A + k) (S 55 k)), ?_, nI_1 k, ag_tr h2 (ag_up (by decide)), fun j hj => ?_, fun j hj => ?_⟩
      · show b187_51 (nI k) R = _
        unfold b187_51
        rw [show (12 : Int32) = nI 12 from rfl, if_neg (nle_nI hk (by omega)), ov_ck_t (ib_nI hk (by omega)), h2 42 (by decide), e, pk_mul, nI_add, ov_ck_t (ib_nI (by omega) (by omega)), nI_clamp (by omega), nI_clamp (by omega), h2 55 (by decide)]
      · show ov_up R 58 (12 * A + k) (S 55 k) 58 j = _
        rw [up_n2 (by omega)]
        exact h3 j hj
      · show ov_up R 58 (12 * A + k) (S 55 k) 58 (12 * A + j) = _
        by_cases z : j = k
        · rw [z, up_eq]
        · rw [up_n2 (by omega)]
          exact h4 j (by omega)
    · rintro ⟨x, R⟩ ⟨rfl, h2⟩
      refine ⟨R, ?_, h2⟩
      show b187_51 (nI 12) R = _
      unfold b187_51
      rw [show (12 : Int32) = nI 12 from rfl, if_pos (le_nI (Nat.le_refl _) (by omega))]
  obtain ⟨T, t1, t2, t3, t4⟩ := L
  unfold f187_49
  rw [t1, Option.bind_some, t2 42 (by decide), e, nI_1]
  refine ⟨_, rfl, ag_tr (ag_mo t2 (by decide)) (ag_tr (ag_up (by decide)) (ag_up (by decide))), ?_, fun j hj => ?_, ?_, fun j hj => ?_, fun j hj => ?_⟩
  · rw [up_n1 (by decide), up_eq]
  · rw [up_n1 (by decide), up_n2 hj, t2 42 (by decide)]
  · rw [up_pu, up_n1 (by decide), t2 55 (by decide)]
    rfl
  · rw [up_n1 (by decide), up_n1 (by decide)]
    exact t3 j hj
  · rw [up_n1 (by decide), up_n1 (by decide)]
    exact t4 j hj
theorem s187 {A : Nat} (hA : A ≤ 14) (e : S 42 27 = nI A) : ∃ S', f187 S = some S' ∧ ag [42, 55, 58] S S' ∧ S' 42 27 = nI (min A 13 + 1) ∧ (∀ j, j ≠ 27 → S' 42 j = S 42 j) ∧ S' 55 = pu (S 55) 11 (S 55 11 + 1) ∧ (∀ i, i < min A 13 → ∀ j, j < 12 → S' 58 (12 * i + j) = S 58 (12 * (i + (A - min A 13)) + j)) ∧ ∀ j, j < 12 → S' 58 (12 * min A 13 + j) = S 55 j := by
  unfold f187
  rw [e]
  by_cases h : A < 14
  · rw [if_neg (show ¬ nI A = 14 from nI_ne (b := 14) (show A ≠ 14 by omega) (by omega) (by omega))]
    have m : min A 13 = A := by omega
    rw [m, Nat.sub_self]
    obtain ⟨S', w1, w2, w3, w4, w5, w6, w7⟩ := s187_49 h e
    exact ⟨S', w1, w2, w3, w4, w5, fun i hi j hj => w6 _ (by omega), w7⟩
  · have hA14 : A = 14 := by omega
    subst hA14
    rw [if_pos (show nI 14 = 14 from rfl)]
    have L : ∃ T, ov_lp (fun s => b187_11 s.1 s.2) 2000 ((0 : Int32), S) = some T ∧ (ag [58] S T ∧ ∀ j, j < 156 → T 58 j = S 58 (j + 12)) := by
      refine lp_inv (fun (k : Nat) (s : Int32 × ov_S) => s.1 = nI k ∧ ag [58] S s.2 ∧ (∀ j, j < k → s.2 58 j = S 58 (j + 12)) ∧ ∀ j, k ≤ j → s.2 58 j = S 58 j) (fun (T : ov_S) => ag [58] S T ∧ ∀ j, j < 156 → T 58 j = S 58 (j + 12)) 156 ?_ ?_ 0 _ (by omega) ⟨rfl, ag_rf, fun j h => absurd h (Nat.not_lt_zero _), fun _ _ => rfl⟩ (by omega)
      · rintro k ⟨x, R⟩ hk ⟨rfl, h2, h3, h4⟩
        have h4 : ∀ j, k ≤ j → R 58 j = S 58 j := h4
        refine ⟨(nI k + 1, ov_up R 58 k (S 58 (k + 12))), ?_, nI_1 k, ag_tr h2 (ag_up (by decide)), fun j hj => ?_, fun j hj => ?_⟩
        · show b187_11 (nI k) R = _
          unfold b187_11
          rw [show (156 : Int32) = nI 156 from rfl, if_neg (nle_nI hk (by omega)), show (12 : Int32) = nI 12 from rfl, nI_add, ov_ck_t (ib_nI (by omega) (by omega)), ov_ck_t (ib_nI (by omega) (by omega)), nI_clamp (by omega), nI_clamp (by omega), h4 _ (by omega)]
        · show ov_up R 58 k (S 58 (k + 12)) 58 j = _
          by_cases z : j = k
          · rw [z, up_eq]
          · rw [up_n2 z]
            exact h3 j (by omega)
        · show ov_up R 58 k (S 58 (k + 12)) 58 j = _
          rw [up_n2 (by omega)]
          exact h4 j (by omega)
      · rintro ⟨x, R⟩ ⟨rfl, h2, h3, h4⟩
        refine ⟨R, ?_, h2, h3⟩
        show b187_11 (nI 156) R = _
        unfold b187_11
        rw [show (156 : Int32) = nI 156 from rfl, if_pos (le_nI (Nat.le_refl _) (by omega))]
    obtain ⟨T, t1, t2, t3⟩ := L
    have e13 : ov_up T 42 27 (T 42 27 - 1) 42 27 = nI 13 := by
      rw [up_eq, t2 42 (by decide), e]
      rfl
    rw [t1, Option.bind_some]
    obtain ⟨S', w1, w2, w3, w4, w5, w6, w7⟩ := s187_49 (by omega) e13
    refine ⟨S', w1, ag_tr (ag_mo t2 (by decide)) (ag_tr (ag_up (by decide)) w2), w3, fun j hj => ?_, ?_, fun i hi j hj => ?_, fun j hj => ?_⟩
    · rw [w4 j hj, up_n2 hj, t2 42 (by decide)]
    · rw [w5, up_n1 (by decide), t2 55 (by decide)]
    · rw [w6 _ (by omega), up_n1 (by decide), t3 _ (by omega)]
      exact congrArg (S 58) (by omega)
    · rw [show min 14 13 = 13 from rfl, w7 j hj, up_n1 (by decide), t2 55 (by decide)]
end
