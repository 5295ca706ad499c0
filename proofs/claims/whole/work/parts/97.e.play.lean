-- CALLS: play
section
variable {S : ov_S} {G : ov_L2} {P : pl_T}
theorem c_play (h : in_P S G P) : ok2 S G (f30 S) (fun T => f157 T) := by
  obtain ⟨tx, n, ht, hn, x1, x2⟩ := txt_of h.1
  obtain ⟨S1, t1, t2, t3⟩ := s18 (a := 11) (by omega) ht hn x1
  have s1 := agD_sm t2
  rcases t3 with ⟨er, ea, _, _⟩ | ⟨p, er, p2, ea⟩
  · -- it is a play
    have y1 := txt1_ag (by omega) x1 t2
    obtain ⟨S2, u1, u2, u3⟩ := s18 (a := 4) (by omega) ht hn y1
    have u3 : rd1 4 S2 (rdQ tx n) ∧ Qok (rdQ tx n) := by
      rcases u3 with ⟨_, _, z1, z2⟩ | ⟨p, z1, _⟩
      · exact ⟨z1, z2⟩
      · rw [er] at z1
        cases z1
    obtain ⟨rq, ok⟩ := u3
    obtain ⟨S3, v1, v2, v3, v4, v5, v6⟩ := s5 rq ok
    have c1 : f30 S = some ((((1000 : Int32) * nI (pD (rdQ tx n))) + ((100 : Int32) * nI (pF (rdQ tx n)))) + ((10 : Int32) * nI (pN (rdQ tx n))) + nI (pL (rdQ tx n)), ov_up (ov_up S3 24 3 0) 1 10 0) := by
      unfold f30 f31
      rw [t1, Option.bind_some]
      dsimp only
      rw [if_pos ea, u1, Option.bind_some]
      dsimp only
      rw [v1, Option.bind_some, Option.bind_some, up_n1 (show 4 ≠ 1 by decide), up_n1 (show 4 ≠ 24 by decide), v2 4 (by decide), rq.1.1, rq.1.2.1, rq.1.2.2.1, rq.1.2.2.2]
    -- what is as it was
    have k0 : ∀ i, i ∉ [1, 4, 5, 6, 7, 8, 9, 10, 11, 12, 13, 14, 15, 16, 17, 18, 19, 20, 24] → (ov_up (ov_up S3 24 3 0) 1 10 0) i = S i := by
      intro i hi
      simp only [List.mem_cons, List.not_mem_nil, or_false, not_or] at hi
      rw [up_n1 (by omega), up_n1 (by omega), v2 i (by simp; omega), u2 i (by omega), t2 i (by omega)]
    have k4 : ∀ i, i ∈ [4, 5, 6, 7, 8, 9, 10] → (ov_up (ov_up S3 24 3 0) 1 10 0) i = S2 i := by
      intro i hi
      simp only [List.mem_cons, List.not_mem_nil, or_false] at hi
      rw [up_n1 (by omega), up_n1 (by omega), v2 i (by simp; omega)]
    have k18 : ∀ i, i ∈ [18, 19, 20] → (ov_up (ov_up S3 24 3 0) 1 10 0) i = S3 i := by
      intro i hi
      simp only [List.mem_cons, List.not_mem_nil, or_false] at hi
      rw [up_n1 (by omega), up_n1 (by omega)]
    have kA : (ov_up (ov_up S3 24 3 0) 1 10 0) 24 3 = 0 := by rw [up_n1 (by decide), up_eq]
    have kK : (ov_up (ov_up S3 24 3 0) 1 10 0) 1 10 = 0 := up_eq
    have kT : (ov_up (ov_up S3 24 3 0) 1 10 0) 2 = S 2 ∧ (ov_up (ov_up S3 24 3 0) 1 10 0) 3 = S 3 ∧ (ov_up (ov_up S3 24 3 0) 1 10 0) 42 = S 42 ∧ (ov_up (ov_up S3 24 3 0) 1 10 0) 43 = S 43 := ⟨k0 2 (by decide), k0 3 (by decide), k0 42 (by decide), k0 43 (by decide)⟩
    generalize ov_up (ov_up S3 24 3 0) 1 10 0 = M at c1 k0 k4 k18 kA kK kT
    -- the reference
    have xM : txt2 (ov_up M 42 0 0) tx n := ⟨by rw [up_n2 (by decide), kT.2.2.1]; exact x2.1, fun j hj => by rw [up_n1 (by decide), kT.2.2.2]; exact x2.2 j hj⟩
    obtain ⟨T1, a1, a2, a3⟩ := s147 ht hn xM
    have r2 := a3 er
    obtain ⟨U1, U2, U3, U4, U5, ⟨e1, e2, e3, e4, e5⟩, b1, b2, b3, b4, b5, b6⟩ := s157c r2 ok
    obtain ⟨W1, w1, w2, w3⟩ := page1 U5
    obtain ⟨W2, q1, q2, q3, q4, q5⟩ := page2 (T := W1) ok.1.2.1 (by rw [w2 42 (by decide)]; exact b3.2.1)
    have c2 : f157 M = some ((((1000 : Int32) * nI (pD (rdQ tx n))) + ((100 : Int32) * nI (pF (rdQ tx n)))) + ((10 : Int32) * nI (pN (rdQ tx n))) + nI (pL (rdQ tx n)), ov_up (ov_up (ov_up W2 42 27 0) 60 0 0) 60 1 0) := by
      have e42 : ∀ j, W2 42 j = U5 42 j := fun j => by rw [q2 42 (by decide), w2 42 (by decide)]
      unfold f157
      rw [a1, Option.bind_some]
      dsimp only
      rw [if_pos ea, r2.1.1, up_n2 (show 15 ≠ 4 by decide), r2.1.2.1, up_n2 (show 17 ≠ 6 by decide), up_n2 (show 17 ≠ 4 by decide), r2.1.2.2.1, up_n2 (show 20 ≠ 7 by decide), up_n2 (show 20 ≠ 6 by decide), up_n2 (show 20 ≠ 4 by decide), r2.1.2.2.2, e1, Option.bind_some, e2, Option.bind_some, e3, Option.bind_some, e4, Option.bind_some, e5, Option.bind_some, w1, Option.bind_some, q1, Option.bind_some]
      show some (((((1000 : Int32) * ((ov_up (ov_up (ov_up W2 42 27 0) 60 0 0) 60 1 0) 42 4)) + ((100 : Int32) * ((ov_up (ov_up (ov_up W2 42 27 0) 60 0 0) 60 1 0) 42 6))) + ((10 : Int32) * ((ov_up (ov_up (ov_up W2 42 27 0) 60 0 0) 60 1 0) 42 7))) + ((ov_up (ov_up (ov_up W2 42 27 0) 60 0 0) 60 1 0) 42 10), ov_up (ov_up (ov_up W2 42 27 0) 60 0 0) 60 1 0) = _
      rw [up_n1 (show 42 ≠ 60 by decide), up_n1 (show 42 ≠ 60 by decide), up_n2 (show 4 ≠ 27 by decide), up_n2 (show 6 ≠ 27 by decide), up_n2 (show 7 ≠ 27 by decide), up_n2 (show 10 ≠ 27 by decide), e42, e42, e42, e42, b3.1, b3.2.1, b3.2.2.1, b3.2.2.2]
    -- what holds then
    have gS : ∀ i j, i ∉ [42, 44, 45, 46, 47, 48, 55, 60] → sc_R i j = false → (ov_up (ov_up (ov_up W2 42 27 0) 60 0 0) 60 1 0) i j = M i j := by
      intro i j hi z
      simp only [List.mem_cons, List.not_mem_nil, or_false, not_or] at hi
      rw [up_n1 (by omega), up_n1 (by omega), up_n1 (by omega), q2 i (by simp; omega), w2 i (by simp; omega), b1 i (by simp; omega), a2 i j z, up_n1 (by omega)]
    have g42 : ∀ j, j ∉ [0, 4, 6, 7, 10, 27] → sc_R 42 j = false → (ov_up (ov_up (ov_up W2 42 27 0) 60 0 0) 60 1 0) 42 j = M 42 j := by
      intro j hj z
      simp only [List.mem_cons, List.not_mem_nil, or_false, not_or] at hj
      rw [up_n1 (by decide), up_n1 (by decide), up_n2 (by omega), q2 42 (by decide), w2 42 (by decide), b2 j (by omega) (by omega) (by omega) (by omega), a2 42 j z, up_n2 (by omega)]
    have gU : ∀ j, j ≠ 27 → (ov_up (ov_up (ov_up W2 42 27 0) 60 0 0) 60 1 0) 42 j = U5 42 j := fun j hj => by rw [up_n1 (by decide), up_n1 (by decide), up_n2 hj, q2 42 (by decide), w2 42 (by decide)]
    have gR : ∀ i, i ∈ [44, 45, 46, 47, 48] → (ov_up (ov_up (ov_up W2 42 27 0) 60 0 0) 60 1 0) i = U5 i := by
      intro i hi
      simp only [List.mem_cons, List.not_mem_nil, or_false] at hi
      rw [up_n1 (by omega), up_n1 (by omega), up_n1 (by omega), q2 i (by simp; omega), w2 i (by simp; omega)]
    have g55 : (ov_up (ov_up (ov_up W2 42 27 0) 60 0 0) 60 1 0) 55 = W2 55 := by rw [up_n1 (by decide), up_n1 (by decide), up_n1 (by decide)]
    have gA : (ov_up (ov_up (ov_up W2 42 27 0) 60 0 0) 60 1 0) 42 27 = 0 := by rw [up_n1 (by decide), up_n1 (by decide), up_eq]
    have gK0 : (ov_up (ov_up (ov_up W2 42 27 0) 60 0 0) 60 1 0) 60 0 = 0 := by rw [up_n2 (by decide), up_eq]
    have gK1 : (ov_up (ov_up (ov_up W2 42 27 0) 60 0 0) 60 1 0) 60 1 = 0 := up_eq
    generalize ov_up (ov_up (ov_up W2 42 27 0) 60 0 0) 60 1 0 = Z at c2 gS g42 gU gR g55 gA gK0 gK1
    have p7 : ∀ k, k < 7 → Z 55 k = if k < 6 then -9 else 0 := fun k hk => by rw [g55, q3 k hk, w3 k (by omega)]
    have p8 : ∀ f, f < pF (rdQ tx n) → Z 55 (7 + f) = nI (st (rdQ tx n) f) := fun f hf => by
      rw [g55, q4 f hf, w2 50 (by decide), b1 50 (by decide)]
      exact r2.2.2.1 f hf
    have p11 : Z 55 11 = 0 := by
      rw [g55, q5, w3 11 (by omega)]
      rfl
    have hT : in_txt Z := by
      refine cg_txt (fun a j z => ?_) h.1
      simp only [lk_txt, Bool.or_eq_true, Bool.and_eq_true, beq_iff_eq] at z
      rcases z with ((⟨rfl, rfl⟩ | ⟨rfl, rfl⟩) | rfl) | rfl
      · rw [gS 2 1 (by decide) rfl, kT.1]
      · rw [g42 2 (by decide) rfl, kT.2.2.1]
      · rw [gS 3 j (by decide) rfl, kT.2.1]
      · rw [gS 43 j (by decide) rfl, kT.2.2.2]
    have hP : pl_R Z (rdQ tx n) := by
      have m4 : ∀ i j, i ∈ [4, 5, 6, 7, 8, 9, 10] → Z i j = S2 i j := fun i j hi => by
        rw [gS i j (by revert hi; revert i; decide) (by
          simp only [List.mem_cons, List.not_mem_nil, or_false] at hi
          rcases hi with rfl | rfl | rfl | rfl | rfl | rfl | rfl <;> rfl), k4 i hi]
      obtain ⟨⟨o1, o2, o3, o4⟩, o5, o6, o7, o8⟩ := ok
      obtain ⟨⟨f0, f1, f2, f3⟩, f4, f5, f6, f7, f8, f9⟩ := rq
      refine ⟨⟨o1, o2, o3, o4⟩, ⟨by rw [gU 4 (by decide)]; exact b3.1, by rw [gU 6 (by decide)]; exact b3.2.1, by rw [gU 7 (by decide)]; exact b3.2.2.1, by rw [gU 10 (by decide)]; exact b3.2.2.2⟩, ⟨by rw [m4 4 _ (by decide)]; exact f0, by rw [m4 4 _ (by decide)]; exact f1, by rw [m4 4 _ (by decide)]; exact f2, by rw [m4 4 _ (by decide)]; exact f3⟩, fun d hd => ⟨(o5 d hd).1, (o5 d hd).2, ?_, ?_⟩, fun k hk => ⟨(o7 k hk).1, (o7 k hk).2.1, ?_, ?_⟩, fun k hk => ⟨(o7 k hk).2.2, ?_, ?_⟩, fun l hl => ⟨(o8 l hl).1, (o8 l hl).2.1, (o8 l hl).2.2, ?_, ?_, ?_, ?_⟩, ?_⟩
      · rw [gR 44 (by decide)]
        exact b4 d hd
      · rw [m4 5 _ (by decide)]
        exact f4 d hd
      · rw [gR 45 (by decide)]
        exact (b5 k hk).1
      · rw [m4 7 _ (by decide)]
        exact (f6 k hk).1
      · rw [gR 46 (by decide)]
        exact (b5 k hk).2
      · rw [m4 8 _ (by decide)]
        exact (f6 k hk).2
      · rw [gR 47 (by decide)]
        exact (b6 l hl).1
      · rw [m4 9 _ (by decide)]
        exact (f7 l hl).1
      · rw [gR 48 (by decide)]
        exact (b6 l hl).2
      · rw [m4 10 _ (by decide)]
        exact (f7 l hl).2
      · rw [m4 4 _ (by decide)]
        exact f8
    have m18 : ∀ i j, i ∈ [18, 19, 20] → Z i j = S3 i j := fun i j hi => by
      rw [gS i j (by revert hi; revert i; decide) (by
        simp only [List.mem_cons, List.not_mem_nil, or_false] at hi
        rcases hi with rfl | rfl | rfl <;> rfl), k18 i hi]
    have pk : ∀ k, k < 6 → Z 55 k = -9 := fun k hk => by rw [p7 k (by omega), if_pos hk]
    have p6 : Z 55 6 = 0 := by
      rw [p7 6 (by omega)]
      rfl
    have hN : in_now Z (pN (rdQ tx n)) (pF (rdQ tx n)) := by
      refine ⟨⟨fun k hk => .inl (pk k hk), fun k _ hk => pk k hk, fun f hf => ⟨st (rdQ tx n) f, ok.2.2.1 f hf, p8 f hf⟩, ⟨0, by omega, by rw [p6]; rfl⟩, fun i j hi hj ne e => pk i hi, fun i f hi hf e => ?_⟩, ⟨fun k hk => ?_, fun f hf => ?_, ?_⟩, ?_⟩
      · rw [pk i hi, p8 f hf] at e
        have := ok.2.2.1 f hf
        exact nI_m9 (by omega) e.symm
      · rw [m18 (18 + 1) k (by decide), pk k hk]
        exact v3 k hk
      · rw [m18 (18 + 2) f (by decide)]
        refine (v4 f hf).trans ?_
        by_cases q : f < pF (rdQ tx n)
        · rw [if_pos q, if_pos q, p8 f q]
        · rw [if_neg q, if_neg q]
      · rw [m18 18 3 (by decide), p6]
        exact v5
      · rw [m18 18 4 (by decide), p11]
        exact v6
    have hA : in_acts Z (pN (rdQ tx n)) (pF (rdQ tx n)) (pL (rdQ tx n)) := ⟨0, by omega, by rw [gS 24 3 (by decide) rfl, kA]; rfl, by rw [gA]; rfl, fun i hi => absurd hi (Nat.not_lt_zero _)⟩
    have hK : in_kept Z (pN (rdQ tx n)) (pF (rdQ tx n)) := ⟨false, false, by rw [gS 1 10 (by decide) rfl, kK]; rfl, by rw [gK0]; rfl, by rw [gK1]; rfl, fun q => Bool.noConfusion q, fun q => Bool.noConfusion q⟩
    have hD : in_trod Z := by
      refine cg_trod (fun a j z => ?_) h.2.2.2.2.2.1
      simp only [lk_trod, Bool.or_eq_true, Bool.and_eq_true, beq_iff_eq] at z
      rcases z with ((((rfl | rfl) | rfl) | rfl) | rfl) | ⟨rfl, rfl⟩
      · rw [gS 28 j (by decide) rfl, k0 28 (by decide)]
      · rw [gS 29 j (by decide) rfl, k0 29 (by decide)]
      · rw [gS 30 j (by decide) rfl, k0 30 (by decide)]
      · rw [gS 61 j (by decide) rfl, k0 61 (by decide)]
      · rw [gS 62 j (by decide) rfl, k0 62 (by decide)]
      · rw [g42 30 (by decide) rfl, kT.2.2.1]
    exact ⟨_, M, Z, c1, c2, ⟨rdQ tx n, hT, hP, hN, hA, hK, hD, h.2.2.2.2.2.2⟩, k0 0 (by decide), funext fun j => by rw [gS 0 j (by decide) rfl, k0 0 (by decide)]⟩
  · -- it is none
    have nz : ¬ rdA tx n = -9 := by
      rw [ea]
      exact nI_m9 (by omega)
    have s2 := sm_tr s1 (sm0 (S := S1))
    obtain ⟨T', u1, u2, u3⟩ := s147 (S := ov_up S1 42 0 0) ht hn (txt2_sm x2 s2)
    refine o2 h s1 (sm_tr sm0 u2) (-3) ?_ ?_
    · unfold f30
      rw [t1, Option.bind_some]
      dsimp only
      rw [if_neg nz]
    · show f157 S1 = _
      unfold f157
      rw [u1, Option.bind_some]
      dsimp only
      rw [if_neg nz]
end
