-- THE START, AND THE LAW TO ITS END
def st_l : List (Nat × Nat × Int32) := [(2, 1, 0), (42, 2, 0), (42, 4, 0), (42, 6, 0), (42, 7, 0), (42, 10, 0), (4, 0, 0), (4, 1, 0), (4, 2, 0), (4, 3, 0), (4, 10, 0), (55, 0, -9), (55, 1, -9), (55, 2, -9), (55, 3, -9), (55, 4, -9), (55, 5, -9), (55, 6, 0), (55, 11, 0), (19, 0, -9), (19, 1, -9), (19, 2, -9), (19, 3, -9), (19, 4, -9), (19, 5, -9), (20, 0, -9), (20, 1, -9), (20, 2, -9), (20, 3, -9), (18, 3, 0), (18, 4, 0), (24, 3, 0), (42, 27, 0), (1, 10, 0), (60, 0, 0), (60, 1, 0), (28, 2, 0), (42, 30, 0)]
theorem st_ok : st_l.all (fun t => ov_s0 (fun _ => 0) t.1 t.2.1 == t.2.2) = true := by decide +kernel
theorem st_tx : (List.range 60).all (fun j => ov_s0 (fun _ => 0) 3 j == 0 && ov_s0 (fun _ => 0) 43 j == 0) = true := by decide +kernel
theorem st_x (xs : Nat → Int32) {a : Nat} (h : a ≠ 0) (k : Nat) : ov_s0 xs a k = ov_s0 (fun _ => 0) a k := by
  unfold ov_s0
  rw [if_neg h, if_neg h]
theorem st_v (xs : Nat → Int32) {a k : Nat} {v : Int32} (h : (a, k, v) ∈ st_l) (ha : a ≠ 0) : ov_s0 xs a k = v := by
  rw [st_x xs ha]
  have := List.all_eq_true.mp st_ok _ h
  simpa using this
theorem in_start (xs : Nat → Int32) : in_I (ov_s0 xs) ov_g0 := by
  have v : ∀ {a k : Nat} {v : Int32}, (a, k, v) ∈ st_l → a ≠ 0 → ov_s0 xs a k = v := fun h ha => st_v xs h ha
  have g9 : ∀ k, k < 6 → ov_s0 xs 55 k = -9 := by
    intro k hk
    have : k = 0 ∨ k = 1 ∨ k = 2 ∨ k = 3 ∨ k = 4 ∨ k = 5 := by omega
    rcases this with rfl | rfl | rfl | rfl | rfl | rfl <;> exact v (by decide) (by decide)
  have c9 : ∀ k, k < 6 → ov_s0 xs 19 k = -9 := by
    intro k hk
    have : k = 0 ∨ k = 1 ∨ k = 2 ∨ k = 3 ∨ k = 4 ∨ k = 5 := by omega
    rcases this with rfl | rfl | rfl | rfl | rfl | rfl <;> exact v (by decide) (by decide)
  have f9 : ∀ k, k < 4 → ov_s0 xs 20 k = -9 := by
    intro k hk
    have : k = 0 ∨ k = 1 ∨ k = 2 ∨ k = 3 := by omega
    rcases this with rfl | rfl | rfl | rfl <;> exact v (by decide) (by decide)
  have z6 : ov_s0 xs 55 6 = 0 := v (by decide) (by decide)
  refine ⟨Q0, ⟨?_, ⟨0, by omega, v (by decide) (by decide)⟩, fun j hj => ?_⟩, ?_, ⟨?_, ?_, ?_⟩, ?_, ?_, ?_, rfl⟩
  · rw [v (v := 0) (by decide) (by decide), v (v := 0) (by decide) (by decide)]
  · have := List.all_eq_true.mp st_tx j (List.mem_range.mpr hj)
    rw [Bool.and_eq_true, beq_iff_eq, beq_iff_eq] at this
    rw [st_x xs (by decide), st_x xs (a := 43) (by decide), this.1, this.2]
    exact ⟨rfl, 0, by omega, rfl⟩
  · refine ⟨⟨by decide, by decide, by decide, by decide⟩, ⟨v (by decide) (by decide), v (by decide) (by decide), v (by decide) (by decide), v (by decide) (by decide)⟩, ⟨v (by decide) (by decide), v (by decide) (by decide), v (by decide) (by decide), v (by decide) (by decide)⟩, fun d h => absurd h (Nat.not_lt_zero d), fun d h => absurd h (Nat.not_lt_zero d), fun d h => absurd h (Nat.not_lt_zero d), fun d h => absurd h (Nat.not_lt_zero d), v (by decide) (by decide)⟩
  · exact ⟨fun k hk => .inl (g9 k hk), fun k _ hk => g9 k hk, fun f h => absurd h (Nat.not_lt_zero f), ⟨0, by omega, z6⟩, fun i j hi _ _ _ => g9 i hi, fun i f _ h => absurd h (Nat.not_lt_zero f)⟩
  · refine ⟨fun k hk => (c9 k hk).trans (g9 k hk).symm, fun f hf => ?_, ?_⟩
    · rw [if_neg (show ¬ f < pF Q0 from Nat.not_lt_zero f)]
      exact f9 f hf
    · rw [z6]
      exact v (by decide) (by decide)
  · rw [v (a := 55) (k := 11) (v := 0) (by decide) (by decide)]
    exact v (by decide) (by decide)
  · exact ⟨0, by omega, v (by decide) (by decide), v (by decide) (by decide), fun i hi => absurd hi (Nat.not_lt_zero _)⟩
  · exact ⟨false, false, v (by decide) (by decide), v (by decide) (by decide), v (by decide) (by decide), fun q => Bool.noConfusion q, fun q => Bool.noConfusion q⟩
  · exact ⟨0, by omega, v (by decide) (by decide), v (by decide) (by decide), fun j hj => absurd hj (Nat.not_lt_zero _)⟩
theorem law_e {L : Nat} (hL : L ≤ 256) {S : ov_S} {G : ov_L2} {p : Nat} (hp : p < 1000) (h : L < p + 4) : b0_18 L (nI p) S G = some (.inr (.inl (S, G))) := by
  unfold b0_18
  rw [if_pos]
  rw [show Int32.ofNat L = nI L from rfl, show (4 : Int32) = nI 4 from rfl]
  by_cases q : L < 4
  · exact Int32.lt_of_lt_of_le (pk_sneg (by omega) q) (nI_pos' (by omega))
  · rw [pk_sub (by omega)]
    exact lt_nI (by omega) (by omega)
theorem law_l {L : Nat} (hL : L ≤ 256) : ∀ t p N (S : ov_S) (G : ov_L2), L < p + 4 * t + 4 → t < N → p + 4 * t < 900 → in_I S G → ∃ S' G', ov_lp (fun s => b0_18 L s.1 s.2.1 s.2.2) N (nI p, S, G) = some (.inl (S', G'))
  | 0, p, N, S, G, h, hN, hp, hI => by
    obtain ⟨M, rfl⟩ : ∃ M, N = M + 1 := ⟨N - 1, by omega⟩
    exact ⟨S, G, lp_stop (body := fun s => b0_18 L s.1 s.2.1 s.2.2) (s := (nI p, S, G)) (law_e hL (by omega) (by omega))⟩
  | t + 1, p, N, S, G, h, hN, hp, hI => by
    obtain ⟨M, rfl⟩ : ∃ M, N = M + 1 := ⟨N - 1, by omega⟩
    by_cases q : L < p + 4
    · exact ⟨S, G, lp_stop (body := fun s => b0_18 L s.1 s.2.1 s.2.2) (s := (nI p, S, G)) (law_e hL (by omega) q)⟩
    · obtain ⟨S2, G2, b, i2, _⟩ := law_b (L := L) hI hL (p := p) (by omega)
      rw [show nI p + (4 : Int32) = nI (p + 4) from nI_add p 4] at b
      rw [lp_go (body := fun s => b0_18 L s.1 s.2.1 s.2.2) (s := (nI p, S, G)) (s' := (nI (p + 4), S2, G2)) b]
      exact law_l hL t (p + 4) M S2 G2 (by omega) (by omega) (by omega) i2
theorem ov_law (L : Nat) (hL : L ≤ 256) (xs : Nat → Int32) : ov_Law L xs := by
  refine ov_law_of L hL xs ?_
  obtain ⟨S', G', h⟩ := law_l hL 64 0 2000 (ov_s0 xs) ov_g0 (by omega) (by omega) (by omega) (in_start xs)
  refine ⟨S', G', ?_⟩
  have h : ov_lp (fun s => b0_18 L s.1 s.2.1 s.2.2) 2000 ((0 : Int32), ov_s0 xs, ov_g0) = some (.inl (S', G')) := h
  unfold f0
  rw [h]
  rfl
