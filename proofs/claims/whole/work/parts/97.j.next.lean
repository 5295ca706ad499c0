-- THE NEXT ROW OF NUMBERS
def row64 (S : ov_S) (n : Nat) (r : Nat → Nat) : Prop := ∀ j, j < n → S 64 j = nI (r j) ∧ r j < 6
section
variable {S : ov_S} {n : Nat} {r : Nat → Nat}
theorem np1_le : ∀ m, np1 r m ≤ m
  | 0 => Nat.le_refl _
  | m + 1 => by
    have := np1_le m
    unfold np1
    split <;> omega
theorem np1_sp : ∀ m k, np1 r m = k + 1 → r k ≤ r (k + 1)
  | 0, k, h => by cases h
  | m + 1, k, h => by
    unfold np1 at h
    by_cases q : r m ≤ r (m + 1)
    · rw [if_pos q] at h
      have : m = k := by omega
      rw [← this]
      exact q
    · rw [if_neg q] at h
      exact np1_sp m k h
theorem lpA (h : row64 S n r) (h6 : n ≤ 6) (x : Int32) : ∀ m N, m < n → m < N → ov_lp (fun s => b205_4 S x s) N (nI m - 1) = some (nI (np1 r m) - 1)
  | 0, N, hm, hN => by
    obtain ⟨M, rfl⟩ : ∃ M, N = M + 1 := ⟨N - 1, by omega⟩
    apply lp_stop
    show b205_4 S x (nI 0 - 1) = _
    unfold b205_4
    rw [if_pos (by decide)]
    rfl
  | m + 1, N, hm, hN => by
    obtain ⟨M, rfl⟩ : ∃ M, N = M + 1 := ⟨N - 1, by omega⟩
    have b : b205_4 S x (nI (m + 1) - 1) = (if r m ≤ r (m + 1) then some (.inr (nI (m + 1) - 1)) else some (.inl (nI m - 1))) := by
      obtain ⟨e1, l1⟩ := h m (by omega)
      obtain ⟨e2, l2⟩ := h (m + 1) (by omega)
      unfold b205_4
      rw [nI_pred, if_neg (nI_l0 (by omega)), ov_ck_t (ib_nI (by omega) (by omega)), nI_1, ov_ck_t (ib_nI (by omega) (by omega)), nI_clamp (by omega), nI_clamp (by omega), e1, e2]
      by_cases q : r m ≤ r (m + 1)
      · rw [if_pos (le_nI q (by omega)), if_pos q]
      · rw [if_neg (nle_nI (by omega) (by omega)), if_neg q]
        rw [show nI m + (-1 : Int32) = nI m - 1 from (Int32.sub_eq_add_neg _ _).symm]
    by_cases q : r m ≤ r (m + 1)
    · rw [if_pos q] at b
      have e : np1 r (m + 1) = m + 1 := if_pos q
      rw [e]
      exact lp_stop b
    · rw [if_neg q] at b
      have e : np1 r (m + 1) = np1 r m := if_neg q
      rw [e, lp_go (body := fun s => b205_4 S x s) b]
      exact lpA h h6 x m M (by omega) (by omega)
theorem np2_le (k : Nat) : ∀ i, np2 r k i ≤ i
  | 0 => Nat.le_refl _
  | i + 1 => by
    have := np2_le k i
    unfold np2
    split <;> omega
theorem lpB (h : row64 S n r) (h6 : n ≤ 6) (x : Int32) {k : Nat} (hk : k + 1 < n) (hle : r k ≤ r (k + 1)) : ∀ i N, k + 1 ≤ i → i < n → i < N → ov_lp (fun s => b205_41 S x (nI k) s) N (nI i) = some (nI (np2 r k i)) ∧ k + 1 ≤ np2 r k i
  | 0, N, h1, h2, hN => by omega
  | i + 1, N, h1, h2, hN => by
    obtain ⟨M, rfl⟩ : ∃ M, N = M + 1 := ⟨N - 1, by omega⟩
    have b : b205_41 S x (nI k) (nI (i + 1)) = (if r k ≤ r (i + 1) then some (.inr (nI (i + 1))) else some (.inl (nI i))) := by
      obtain ⟨e1, l1⟩ := h k (by omega)
      obtain ⟨e2, l2⟩ := h (i + 1) (by omega)
      unfold b205_41
      rw [ov_ck_t (ib_nI (by omega) (by omega)), ov_ck_t (ib_nI (by omega) (by omega)), nI_clamp (by omega), nI_clamp (by omega), e1, e2]
      by_cases q : r k ≤ r (i + 1)
      · rw [if_pos (le_nI q (by omega)), if_pos q]
      · rw [if_neg (nle_nI (by omega) (by omega)), if_neg q, pk_m1]
    by_cases q : r k ≤ r (i + 1)
    · rw [if_pos q] at b
      have e : np2 r k (i + 1) = i + 1 := if_pos q
      rw [e]
      exact ⟨lp_stop b, h1⟩
    · rw [if_neg q] at b
      have e : np2 r k (i + 1) = np2 r k i := if_neg q
      have : i ≠ k := fun z => q (by rw [z]; exact hle)
      rw [e, lp_go (body := fun s => b205_41 S x (nI k) s) b]
      exact lpB h h6 x hk hle i M (by omega) (by omega) (by omega)
theorem swp_row (h : row64 S n r) {a b : Nat} (ha : a < n) (hb : b < n) : row64 (ov_up (ov_up S 64 a (S 64 b)) 64 b (S 64 a)) n (swp r a b) := by
  intro j hj
  obtain ⟨ea, la⟩ := h a ha
  obtain ⟨eb, lb⟩ := h b hb
  obtain ⟨ej, lj⟩ := h j hj
  unfold swp
  by_cases q : j = b
  · rw [if_pos q, q, up_eq]
    exact ⟨ea, la⟩
  · rw [if_neg q, up_n2 q]
    by_cases z : j = a
    · rw [if_pos z, z, up_eq]
      exact ⟨eb, lb⟩
    · rw [if_neg z, up_n2 z]
      exact ⟨ej, lj⟩
theorem lpC (h6 : n ≤ 6) : ∀ f a b N (S : ov_S) (r : Nat → Nat), row64 S n r → b < a + f → a ≤ n → b < n → f < N → ∃ T, ov_lp (fun s => b205_100 s.1 s.2.1 s.2.2) N (nI a, nI b, S) = some T ∧ ag [64] S T ∧ row64 T n (np3 f r a b)
  | 0, a, b, N, S, r, h, hf, ha, hb, hN => by
    obtain ⟨M, rfl⟩ : ∃ M, N = M + 1 := ⟨N - 1, by omega⟩
    refine ⟨S, ?_, ag_rf, h⟩
    apply lp_stop
    show b205_100 (nI a) (nI b) S = _
    unfold b205_100
    rw [if_pos (le_nI (by omega) (by omega))]
  | f + 1, a, b, N, S, r, h, hf, ha, hb, hN => by
    obtain ⟨M, rfl⟩ : ∃ M, N = M + 1 := ⟨N - 1, by omega⟩
    by_cases q : b ≤ a
    · have e : np3 (f + 1) r a b = r := if_pos q
      rw [e]
      refine ⟨S, ?_, ag_rf, h⟩
      apply lp_stop
      show b205_100 (nI a) (nI b) S = _
      unfold b205_100
      rw [if_pos (le_nI q (by omega))]
    · have e : np3 (f + 1) r a b = np3 f (swp r a b) (a + 1) (b - 1) := if_neg q
      have b1 : b205_100 (nI a) (nI b) S = some (.inl (nI (a + 1), nI (b - 1), ov_up (ov_up S 64 a (S 64 b)) 64 b (S 64 a))) := by
        unfold b205_100
        obtain ⟨c, rfl⟩ : ∃ c, b = c + 1 := ⟨b - 1, by omega⟩
        rw [if_neg (nle_nI (by omega) (by omega)), ov_ck_t (ib_nI (by omega) (by omega)), ov_ck_t (ib_nI (by omega) (by omega)), ov_ck_t (ib_nI (by omega) (by omega)), ov_ck_t (ib_nI (by omega) (by omega)), nI_clamp (by omega), nI_clamp (by omega), nI_1, pk_m1]
        rfl
      obtain ⟨T, t1, t2, t3⟩ := lpC h6 f (a + 1) (b - 1) M _ _ (swp_row h (a := a) (b := b) (by omega) hb) (by omega) (by omega) (by omega) (by omega)
      rw [e, lp_go (body := fun s => b205_100 s.1 s.2.1 s.2.2) (s := (nI a, nI b, S)) (s' := (nI (a + 1), nI (b - 1), ov_up (ov_up S 64 a (S 64 b)) 64 b (S 64 a))) b1]
      exact ⟨T, t1, ag_tr (ag_tr (ag_up (by decide)) (ag_up (by decide))) t2, t3⟩
theorem s205 (h : row64 S n r) (h6 : n ≤ 6) : (npF n r = none ∧ f205 S (nI n) = some (0, S)) ∨ ∃ r' T, npF n r = some r' ∧ f205 S (nI n) = some (1, T) ∧ ag [64] S T ∧ row64 T n r' := by
  unfold f205
  cases n with
  | zero =>
    left
    refine ⟨rfl, ?_⟩
    have : ov_lp (fun s => b205_4 S (nI 0) s) 2000 (nI 0 - (2 : Int32)) = some (nI 0 - (2 : Int32)) := by
      apply lp_stop (N := 1999)
      show b205_4 S (nI 0) (nI 0 - 2) = _
      unfold b205_4
      rw [if_pos (by decide)]
    rw [this, Option.bind_some]
    unfold f205_31
    rw [if_neg (by decide)]
  | succ q =>
    have e2 : nI (q + 1) - (2 : Int32) = nI q - 1 := by
      rw [show (2 : Int32) = 1 + 1 from rfl, ← Int32.sub_sub, nI_pred]
    rw [e2, lpA h h6 (nI (q + 1)) q 2000 (by omega) (by omega), Option.bind_some]
    have lq := np1_le (r := r) q
    cases z : np1 r q with
    | zero =>
      left
      refine ⟨?_, ?_⟩
      · show (if q + 1 = 0 then none else match np1 r (q + 1 - 1) with | 0 => none | k + 1 => some (np3 6 (swp r k (np2 r k (q + 1 - 1))) (k + 1) (q + 1 - 1))) = none
        rw [if_neg (by omega), show q + 1 - 1 = q by omega, z]
      · unfold f205_31
        rw [if_neg (by decide)]
    | succ k =>
      right
      have hle := np1_sp q k z
      obtain ⟨b1, b2⟩ := lpB h h6 (nI (q + 1)) (k := k) (by omega) hle q 2000 (by omega) (by omega) (by omega)
      have b3 := np2_le (r := r) k q
      generalize hi : np2 r k q = i at b1 b2 b3
      obtain ⟨T, t1, t2, t3⟩ := lpC h6 6 (k + 1) q 2000 _ _ (swp_row h (a := k) (b := i) (by omega) (by omega)) (by omega) (by omega) (by omega) (by omega)
      refine ⟨np3 6 (swp r k i) (k + 1) q, T, ?_, ?_, ag_tr (ag_tr (ag_up (by decide)) (ag_up (by decide))) t2, t3⟩
      · show (if q + 1 = 0 then none else match np1 r (q + 1 - 1) with | 0 => none | k + 1 => some (np3 6 (swp r k (np2 r k (q + 1 - 1))) (k + 1) (q + 1 - 1))) = _
        rw [if_neg (by omega), show q + 1 - 1 = q by omega, z, ← hi]
      · unfold f205_31
        rw [nI_pred, if_pos (nI_pos' (by omega)), nI_pred, b1, Option.bind_some, ov_ck_t (ib_nI (by omega) (by omega)), ov_ck_t (ib_nI (by omega) (by omega)), ov_ck_t (ib_nI (by omega) (by omega)), ov_ck_t (ib_nI (by omega) (by omega)), nI_clamp (by omega), nI_clamp (by omega), nI_1, t1]
        rfl
end
