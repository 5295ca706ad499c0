-- ONE THING READ, BOTH SIDES
def agD (a : Nat) (T T' : ov_S) : Prop := ∀ i, i < a ∨ a + 6 < i → T' i = T i
theorem agD_rf {a : Nat} {T : ov_S} : agD a T T := fun _ _ => rfl
theorem agD_tr {a : Nat} {T T1 T2 : ov_S} (h : agD a T T1) (h2 : agD a T1 T2) : agD a T T2 := fun i q => (h2 i q).trans (h i q)
theorem agD_up {a b k : Nat} {T : ov_S} {x : Int32} (h1 : a ≤ b) (h2 : b ≤ a + 6) : agD a T (ov_up T b k x) := fun i q => up_n1 (by omega)
def out1 (a : Nat) (T : ov_S) (tx : Nat → Nat) (n i : Nat) (Q : pl_T) (sz : Nat) (r : Option (Int32 × ov_S)) : Prop := ∃ g o T', thg tx n i Q = (g, o) ∧ r = some (nI g, T') ∧ agD a T T' ∧ g ≤ 3 ∧ ((∃ Q', o = some Q' ∧ rd1 a T' Q' ∧ Qok Q' ∧ g = sz) ∨ (o = none ∧ rd1 a T' Q ∧ g < sz))
section
variable {T : ov_S} {Q : pl_T} {a n i : Nat} {tx : Nat → Nat}
theorem s23v (ht : ∀ j, j < 60 → tx j < 256) (hn : n ≤ 60) {m : Nat} (hm : m < 2 ^ 18) (j : Nat) : f23 (nI m) (btv tx n j - (97 : Int32)) = some (if m.testBit (vl tx n 97 j) then 1 else 0) := by
  rcases vl_sp (i := j) ht hn (.inr rfl) with ⟨v1, v2, v3, v4, v5⟩ | ⟨v1, v2, v3⟩
  · rw [show (97 : Int32) = nI 97 from rfl, v5]
    by_cases h : vl tx n 97 j < 31
    · exact s23 (by omega) h
    · unfold f23
      rw [if_neg (nI_l0 (by omega)), if_pos (show (31 : Int32) ≤ nI (vl tx n 97 j) from le_nI (a := 31) (by omega) (by omega)), tb_out hm (by omega)]
      rfl
  · rw [show (97 : Int32) = nI 97 from rfl, v1, tb_out hm (by omega)]
    unfold f23
    rw [if_pos v3]
    rfl
theorem s29v (ht : ∀ j, j < 60 → tx j < 256) (hn : n ≤ 60) (h2 : T a 2 = nI (pN Q)) (h6 : pN Q ≤ 6) (j : Nat) : f29 a T (btv tx n j - (48 : Int32)) = some (if vl tx n 48 j < pN Q then 1 else 0) := by
  rcases vl_sp (i := j) ht hn (.inl rfl) with ⟨v1, v2, v3, v4, v5⟩ | ⟨v1, v2, v3⟩
  · rw [show (48 : Int32) = nI 48 from rfl, v5]
    by_cases h : vl tx n 48 j < pN Q
    · rw [if_pos h]
      exact gd_in h2 h (by omega)
    · rw [if_neg h]
      exact gd_out h2 (.inr (le_nI (by omega) (by omega)))
  · rw [show (48 : Int32) = nI 48 from rfl, v1, if_neg (by omega)]
    exact gd_out h2 (.inl v3)
theorem s22 (ht : ∀ j, j < 60 → tx j < 256) (hn : n ≤ 60) (ok : Qok Q) (h : rd1 a T Q) (e : tx i = 68) : out1 a T tx n i Q 2 (f22 a T (btv tx n (i + 1) - (97 : Int32))) := by
  have tl := tkm_lt ok
  have cl : cm 258048 (tkm Q) < 2 ^ 18 := cm_lt (by decide)
  unfold f22 out1 thg
  rw [if_pos e, h.1.1, h.2.2.2.2.2.2, show (258048 : Int32) = nI 258048 from rfl, nI_cm, s23v ht hn cl]
  have fu := bk_full tl
  by_cases h3 : 3 ≤ pD Q
  · rw [if_pos (.inl h3), if_pos (show (3 : Int32) ≤ nI (pD Q) from le_nI (a := 3) h3 (by have := ok.1.1; omega))]
    exact ⟨0, none, T, rfl, rfl, agD_rf, by omega, .inr ⟨rfl, h, by omega⟩⟩
  · rw [if_neg (show ¬ (3 : Int32) ≤ nI (pD Q) from nle_nI (a := 3) (by omega) (by omega))]
    by_cases fl : tkm Q / 4096 = 63
    · rw [if_pos (.inr fl), if_pos (by rw [fu.mpr fl]; rfl)]
      exact ⟨0, none, T, rfl, rfl, agD_rf, by omega, .inr ⟨rfl, h, by omega⟩⟩
    · rw [if_neg (fun q => q.elim h3 fl), if_neg (fun q => fl (fu.mp ((nI_z (by omega)).mp q)))]
      by_cases t : (cm 258048 (tkm Q)).testBit (vl tx n 97 (i + 1)) = true
      · obtain ⟨c1, c2, c3⟩ := cm_bk.mp t
        have ev : btv tx n (i + 1) - (97 : Int32) = nI (vl tx n 97 (i + 1)) := by
          rcases vl_sp (i := i + 1) ht hn (.inr rfl) with ⟨v1, v2, v3, v4, v5⟩ | ⟨v1, v2, v3⟩
          · exact v5
          · omega
        rw [if_pos t, if_pos t, Option.bind_some, if_neg (by decide), ov_ck_t (ib_nI (by omega) (by omega)), ev, s24 c2, Option.bind_some, nI_clamp (by omega), up_n1 (show a ≠ a + 1 by omega), h.1.1, nI_1, up_n2 (show 11 ≠ 0 by decide), up_n1 (show a ≠ a + 1 by omega), h.2.2.2.2.2.2, nI_or]
        exact ⟨2, _, _, rfl, rfl, agD_tr (agD_up (by omega) (by omega)) (agD_tr (agD_up (by omega) (by omega)) (agD_up (by omega) (by omega))), by omega, .inl ⟨_, rfl, rd1_D h, Q_D ok (by omega) c1 c2, rfl⟩⟩
      · rw [if_neg t, if_neg t, Option.bind_some, if_pos rfl]
        exact ⟨1, none, T, rfl, rfl, agD_rf, by omega, .inr ⟨rfl, h, by omega⟩⟩
theorem s25 (ht : ∀ j, j < 60 → tx j < 256) (hn : n ≤ 60) (ok : Qok Q) (h : rd1 a T Q) (e : tx i = 70) : out1 a T tx n i Q 2 (f25 a T (btv tx n (i + 1) - (97 : Int32))) := by
  have tl := tkm_lt ok
  have cl : cm 262143 (tkm Q) < 2 ^ 18 := cm_lt (by decide)
  unfold f25 out1 thg
  rw [if_neg (by omega), if_pos e, h.1.2.1, h.2.2.2.2.2.2, show (262143 : Int32) = nI 262143 from rfl, nI_cm, s23v ht hn cl]
  by_cases h3 : 4 ≤ pF Q
  · rw [if_pos h3, if_neg (show ¬ nI (pF Q) < (4 : Int32) from nlt_nI (b := 4) h3 (by have := ok.1.2.1; omega))]
    exact ⟨0, none, T, rfl, rfl, agD_rf, by omega, .inr ⟨rfl, h, by omega⟩⟩
  · rw [if_neg h3, if_pos (show nI (pF Q) < (4 : Int32) from lt_nI (b := 4) (by omega) (by omega))]
    by_cases t : (cm 262143 (tkm Q)).testBit (vl tx n 97 (i + 1)) = true
    · obtain ⟨c2, c3⟩ := cm_al.mp t
      have ev : btv tx n (i + 1) - (97 : Int32) = nI (vl tx n 97 (i + 1)) := by
        rcases vl_sp (i := i + 1) ht hn (.inr rfl) with ⟨v1, v2, v3, v4, v5⟩ | ⟨v1, v2, v3⟩
        · exact v5
        · omega
      rw [if_pos t, if_pos t, Option.bind_some, if_neg (by decide), ov_ck_t (ib_nI (by omega) (by omega)), ev, s24 c2, Option.bind_some, nI_clamp (by omega), up_n1 (show a ≠ a + 2 by omega), h.1.2.1, nI_1, up_n2 (show 11 ≠ 1 by decide), up_n1 (show a ≠ a + 2 by omega), h.2.2.2.2.2.2, nI_or]
      exact ⟨2, _, _, rfl, rfl, agD_tr (agD_up (by omega) (by omega)) (agD_tr (agD_up (by omega) (by omega)) (agD_up (by omega) (by omega))), by omega, .inl ⟨_, rfl, rd1_F h, Q_F ok (by omega) c2, rfl⟩⟩
    · rw [if_neg t, if_neg t, Option.bind_some, if_pos rfl]
      exact ⟨1, none, T, rfl, rfl, agD_rf, by omega, .inr ⟨rfl, h, by omega⟩⟩
theorem s26 (ht : ∀ j, j < 60 → tx j < 256) (hn : n ≤ 60) (ok : Qok Q) (h : rd1 a T Q) (e : tx i = 80) : out1 a T tx n i Q 3 (f26 a T (btv tx n (i + 1) - (48 : Int32)) (btv tx n (i + 2) - (48 : Int32))) := by
  unfold f26 out1 thg
  rw [if_neg (by omega), if_neg (by omega), if_pos e, h.1.2.2.1]
  by_cases h3 : 6 ≤ pN Q
  · rw [if_pos h3, if_neg (show ¬ nI (pN Q) < (6 : Int32) from nlt_nI (b := 6) h3 (by have := ok.1.2.2.1; omega))]
    exact ⟨0, none, T, rfl, rfl, agD_rf, by omega, .inr ⟨rfl, h, by omega⟩⟩
  · rw [if_neg h3, if_pos (show nI (pN Q) < (6 : Int32) from lt_nI (b := 6) (by omega) (by omega))]
    have one : ∃ g o T', ((1 : Nat), (none : Option pl_T)) = (g, o) ∧ some ((1 : Int32), T) = some (nI g, T') ∧ agD a T T' ∧ g ≤ 3 ∧ ((∃ Q', o = some Q' ∧ rd1 a T' Q' ∧ Qok Q' ∧ g = 3) ∨ (o = none ∧ rd1 a T' Q ∧ g < 3)) := ⟨1, none, T, rfl, rfl, agD_rf, by omega, .inr ⟨rfl, h, by omega⟩⟩
    have two : ∃ g o T', ((2 : Nat), (none : Option pl_T)) = (g, o) ∧ some ((2 : Int32), T) = some (nI g, T') ∧ agD a T T' ∧ g ≤ 3 ∧ ((∃ Q', o = some Q' ∧ rd1 a T' Q' ∧ Qok Q' ∧ g = 3) ∨ (o = none ∧ rd1 a T' Q ∧ g < 3)) := ⟨2, none, T, rfl, rfl, agD_rf, by omega, .inr ⟨rfl, h, by omega⟩⟩
    rcases vl_sp (i := i + 1) ht hn (.inl rfl) with ⟨v1, v2, v3, v4, v5⟩ | ⟨v1, v2, v3⟩
    · rw [show (48 : Int32) = nI 48 from rfl, v5]
      generalize vl tx n 48 (i + 1) = v at v1 v5 ⊢
      by_cases a1 : 1 ≤ v
      · rw [if_neg (show ¬ nI v < (1 : Int32) from nlt_nI (b := 1) a1 (by omega))]
        by_cases a9 : v ≤ 9
        · rw [if_pos (show nI v ≤ (9 : Int32) from le_nI (b := 9) a9 (by omega)), if_pos ⟨a1, a9⟩]
          rcases vl_sp (i := i + 2) ht hn (.inl rfl) with ⟨w1, w2, w3, w4, w5⟩ | ⟨w1, w2, w3⟩
          · rw [w5]
            generalize vl tx n 48 (i + 2) = w at w1 w5 ⊢
            rw [if_neg (nI_l0 (show w < 2 ^ 31 by omega))]
            by_cases b3 : w ≤ 3
            · rw [if_pos (show nI w ≤ (3 : Int32) from le_nI (b := 3) b3 (by omega)), if_pos b3, ov_ck_t (ib_nI (by omega) (by omega)), nI_clamp (by omega), up_n1 (show a ≠ a + 3 by omega), h.1.2.2.1, ov_ck_t (ib_nI (by omega) (by omega)), nI_clamp (by omega), up_n1 (show a ≠ a + 4 by omega), up_n1 (show a ≠ a + 3 by omega), h.1.2.2.1, h.2.2.2.2.2.1]
              have fin : (if nI w = (2 : Int32) then (f27 (nI (gm Q)) (nI (pN Q))).bind fun y3 => f26_79 a (ov_up (ov_up T (a + 3) (pN Q) (nI v)) (a + 4) (pN Q) (nI w)) y3 else f26_79 a (ov_up (ov_up T (a + 3) (pN Q) (nI v)) (a + 4) (pN Q) (nI w)) (nI (gm Q))) = some (nI 3, ov_up (ov_up (ov_up (ov_up T (a + 3) (pN Q) (nI v)) (a + 4) (pN Q) (nI w)) a 10 (nI (gm Q ||| (if w = 2 then 2 ^ pN Q else 0)))) a 2 (nI (pN Q + 1))) := by
                unfold f26_79
                by_cases z : w = 2
                · rw [if_pos (by rw [z]; rfl), if_pos z, s27 (by omega), Option.bind_some, up_n2 (show 2 ≠ 10 by decide), up_n1 (show a ≠ a + 4 by omega), up_n1 (show a ≠ a + 3 by omega), h.1.2.2.1, nI_1]
                  rfl
                · rw [if_neg (show ¬ nI w = (2 : Int32) from nI_ne (b := 2) z (by omega) (by omega)), if_neg z, up_n2 (show 2 ≠ 10 by decide), up_n1 (show a ≠ a + 4 by omega), up_n1 (show a ≠ a + 3 by omega), h.1.2.2.1, nI_1, Nat.or_zero]
                  rfl
              rw [fin]
              exact ⟨3, _, _, rfl, rfl, agD_tr (agD_up (by omega) (by omega)) (agD_tr (agD_up (by omega) (by omega)) (agD_tr (agD_up (by omega) (by omega)) (agD_up (by omega) (by omega)))), by omega, .inl ⟨_, rfl, rd1_P h, Q_P ok (by omega) a1 a9 b3, rfl⟩⟩
            · rw [if_neg (show ¬ nI w ≤ (3 : Int32) from nle_nI (b := 3) (by omega) (by omega)), if_neg b3]
              exact two
          · rw [if_pos w3, w1, if_neg (show ¬ 1000 ≤ 3 by omega)]
            exact two
        · rw [if_neg (show ¬ nI v ≤ (9 : Int32) from nle_nI (b := 9) (by omega) (by omega)), if_neg (fun q => a9 q.2)]
          exact one
      · rw [if_pos (show nI v < (1 : Int32) from lt_nI (b := 1) (by omega) (by omega)), if_neg (fun q => a1 q.1)]
        exact one
    · rw [show (48 : Int32) = nI 48 from rfl, if_pos (show btv tx n (i + 1) - nI 48 < (1 : Int32) from Int32.lt_trans v3 (by decide)), v1, if_neg (fun q => absurd q.2 (by omega))]
      exact one
theorem s28 (ht : ∀ j, j < 60 → tx j < 256) (hn : n ≤ 60) (ok : Qok Q) (h : rd1 a T Q) (e : tx i = 76) : out1 a T tx n i Q 3 (f28 a T (btv tx n (i + 1) - (48 : Int32)) (btv tx n (i + 2) - (48 : Int32))) := by
  have h6 := ok.1.2.2.1
  unfold f28 out1 thg
  rw [if_neg (by omega), if_neg (by omega), if_neg (by omega), if_pos e, h.1.2.2.2, h.1.2.2.1, s29v ht hn h.1.2.2.1 h6, s29v ht hn h.1.2.2.1 h6]
  have zero : ∃ g o T', ((0 : Nat), (none : Option pl_T)) = (g, o) ∧ some ((0 : Int32), T) = some (nI g, T') ∧ agD a T T' ∧ g ≤ 3 ∧ ((∃ Q', o = some Q' ∧ rd1 a T' Q' ∧ Qok Q' ∧ g = 3) ∨ (o = none ∧ rd1 a T' Q ∧ g < 3)) := ⟨0, none, T, rfl, rfl, agD_rf, by omega, .inr ⟨rfl, h, by omega⟩⟩
  have one : ∃ g o T', ((1 : Nat), (none : Option pl_T)) = (g, o) ∧ some ((1 : Int32), T) = some (nI g, T') ∧ agD a T T' ∧ g ≤ 3 ∧ ((∃ Q', o = some Q' ∧ rd1 a T' Q' ∧ Qok Q' ∧ g = 3) ∨ (o = none ∧ rd1 a T' Q ∧ g < 3)) := ⟨1, none, T, rfl, rfl, agD_rf, by omega, .inr ⟨rfl, h, by omega⟩⟩
  have two : ∃ g o T', ((2 : Nat), (none : Option pl_T)) = (g, o) ∧ some ((2 : Int32), T) = some (nI g, T') ∧ agD a T T' ∧ g ≤ 3 ∧ ((∃ Q', o = some Q' ∧ rd1 a T' Q' ∧ Qok Q' ∧ g = 3) ∨ (o = none ∧ rd1 a T' Q ∧ g < 3)) := ⟨2, none, T, rfl, rfl, agD_rf, by omega, .inr ⟨rfl, h, by omega⟩⟩
  by_cases h3 : 6 ≤ pL Q
  · rw [if_pos (.inl h3), if_pos (show (6 : Int32) ≤ nI (pL Q) from le_nI (a := 6) h3 (by have := ok.1.2.2.2; omega))]
    exact zero
  · rw [if_neg (show ¬ (6 : Int32) ≤ nI (pL Q) from nle_nI (a := 6) (by omega) (by omega))]
    by_cases n2 : pN Q < 2
    · rw [if_pos (.inr n2), if_neg (show ¬ (2 : Int32) ≤ nI (pN Q) from nle_nI (a := 2) n2 (by omega))]
      exact zero
    · rw [if_neg (fun q => q.elim h3 n2), if_pos (show (2 : Int32) ≤ nI (pN Q) from le_nI (a := 2) (by omega) (by omega)), Option.bind_some]
      by_cases v1 : vl tx n 48 (i + 1) < pN Q
      · rw [if_pos v1, if_pos v1, if_neg n10, Option.bind_some]
        by_cases w1 : vl tx n 48 (i + 2) < pN Q
        · have ev : btv tx n (i + 1) - (48 : Int32) = nI (vl tx n 48 (i + 1)) := by
            rcases vl_sp (i := i + 1) ht hn (.inl rfl) with ⟨z1, z2, z3, z4, z5⟩ | ⟨z1, z2, z3⟩
            · exact z5
            · omega
          have ew : btv tx n (i + 2) - (48 : Int32) = nI (vl tx n 48 (i + 2)) := by
            rcases vl_sp (i := i + 2) ht hn (.inl rfl) with ⟨z1, z2, z3, z4, z5⟩ | ⟨z1, z2, z3⟩
            · exact z5
            · omega
          rw [if_pos w1, if_neg n10, ev, ew]
          by_cases ne : vl tx n 48 (i + 2) = vl tx n 48 (i + 1)
          · rw [if_pos (show nI (vl tx n 48 (i + 2)) = nI (vl tx n 48 (i + 1)) by rw [ne]), if_neg (show ¬ (vl tx n 48 (i + 2) < pN Q ∧ vl tx n 48 (i + 2) ≠ vl tx n 48 (i + 1)) from fun q => q.2 ne)]
            exact two
          · rw [if_neg (nI_ne ne (by omega) (by omega)), if_pos (show vl tx n 48 (i + 2) < pN Q ∧ vl tx n 48 (i + 2) ≠ vl tx n 48 (i + 1) from ⟨w1, ne⟩), ov_ck_t (ib_nI (by omega) (by omega)), nI_clamp (by omega), up_n1 (show a ≠ a + 5 by omega), h.1.2.2.2, ov_ck_t (ib_nI (by omega) (by omega)), nI_clamp (by omega), up_n1 (show a ≠ a + 6 by omega), up_n1 (show a ≠ a + 5 by omega), h.1.2.2.2, nI_1]
            exact ⟨3, _, _, rfl, rfl, agD_tr (agD_up (by omega) (by omega)) (agD_tr (agD_up (by omega) (by omega)) (agD_up (by omega) (by omega))), by omega, .inl ⟨_, rfl, rd1_L h, Q_L ok (by omega) v1 w1 ne, rfl⟩⟩
        · rw [if_neg w1, if_pos (show (0 : Int32) = 0 from rfl), if_neg (show ¬ (vl tx n 48 (i + 2) < pN Q ∧ vl tx n 48 (i + 2) ≠ vl tx n 48 (i + 1)) from fun q => w1 q.1)]
          exact two
      · rw [if_neg v1, if_neg v1, if_pos (show (0 : Int32) = 0 from rfl)]
        exact one
theorem s21 (ht : ∀ j, j < 60 → tx j < 256) (hn : n ≤ 60) (hi : i < 60) (ok : Qok Q) (h : rd1 a T Q) : out1 a T tx n i Q (if tx i = 68 ∨ tx i = 70 then 2 else 3) (f21 a T (nI (tx i)) (btv tx n (i + 1)) (btv tx n (i + 2))) := by
  have ti := ht i hi
  have fin : ∀ {sz : Nat} {r : Option (Int32 × ov_S)}, out1 a T tx n i Q sz r → out1 a T tx n i Q sz (r.bind fun y => some (y.1, y.2)) := by
    rintro sz r ⟨g, o, T', q1, q2, q3⟩
    exact ⟨g, o, T', q1, by rw [q2]; rfl, q3⟩
  unfold f21
  by_cases c1 : tx i = 68
  · rw [if_pos (.inl c1), if_pos (by rw [c1]; rfl)]
    exact fin (s22 ht hn ok h c1)
  rw [if_neg (show ¬ nI (tx i) = (68 : Int32) from nI_ne (b := 68) c1 (by omega) (by omega))]
  by_cases c2 : tx i = 70
  · rw [if_pos (.inr c2), if_pos (by rw [c2]; rfl)]
    exact fin (s25 ht hn ok h c2)
  rw [if_neg (fun q => q.elim c1 c2), if_neg (show ¬ nI (tx i) = (70 : Int32) from nI_ne (b := 70) c2 (by omega) (by omega))]
  by_cases c3 : tx i = 76
  · rw [if_pos (by rw [c3]; rfl)]
    exact fin (s28 ht hn ok h c3)
  rw [if_neg (show ¬ nI (tx i) = (76 : Int32) from nI_ne (b := 76) c3 (by omega) (by omega))]
  by_cases c4 : tx i = 80
  · rw [if_pos (by rw [c4]; rfl)]
    exact fin (s26 ht hn ok h c4)
  rw [if_neg (show ¬ nI (tx i) = (80 : Int32) from nI_ne (b := 80) c4 (by omega) (by omega))]
  refine ⟨0, none, T, ?_, rfl, agD_rf, by omega, .inr ⟨rfl, h, by omega⟩⟩
  unfold thg
  rw [if_neg c1, if_neg c2, if_neg c4, if_neg c3]
-- the reference's
def out2 (T : ov_S) (tx : Nat → Nat) (n i : Nat) (Q : pl_T) (r : Option (Int32 × ov_S)) : Prop := ∃ g b T', r = some (b, T') ∧ T' 42 3 = nI (i + g) ∧ sm_S T T' ∧ ((∃ Q', thg tx n i Q = (g, some Q') ∧ b = 1 ∧ rd2 T' Q' ∧ Qok Q') ∨ (thg tx n i Q = (g, none) ∧ b = 0 ∧ rd2 T' Q))
def txt2 (T : ov_S) (tx : Nat → Nat) (n : Nat) : Prop := T 42 2 = nI n ∧ ∀ j, j < 60 → T 43 j = nI (tx j)
theorem txt2_sm {T T' : ov_S} (h : txt2 T tx n) (s : sm_S T T') : txt2 T' tx n := ⟨by rw [s 42 2 rfl]; exact h.1, fun j hj => by rw [s 43 j rfl]; exact h.2 j hj⟩
theorem rd2_p {x : Int32} (h : rd2 T Q) : rd2 (ov_up T 42 3 x) Q := by
  obtain ⟨⟨h0, h1, h2, h3⟩, h4, h5, h6, h7⟩ := h
  refine ⟨⟨by rw [up_n2 (by decide)]; exact h0, by rw [up_n2 (by decide)]; exact h1, by rw [up_n2 (by decide)]; exact h2, by rw [up_n2 (by decide)]; exact h3⟩, ?_, ?_, ?_, ?_⟩
  · rw [up_n1 (by decide)]
    exact h4
  · rw [up_n1 (by decide)]
    exact h5
  · rw [up_n1 (by decide), up_n1 (by decide)]
    exact h6
  · rw [up_n1 (by decide), up_n1 (by decide)]
    exact h7
theorem s155 (ht : ∀ j, j < 60 → tx j < 256) (hn : n ≤ 60) (hx : txt2 T tx n) (hp : T 42 3 = nI i) (hi : i ≤ n) {lo hi : Nat} (hh : hi ≤ 9) : f155 T (nI lo) (nI hi) = some (if lo ≤ vl tx n 48 i ∧ vl tx n 48 i ≤ hi ∧ lo < 100 then (nI (vl tx n 48 i), ov_up T 42 3 (nI (i + 1))) else (-9, T)) ∨ 100 ≤ lo := by
  by_cases l100 : lo < 100
  · left
    unfold f155
    rw [hp, hx.1]
    by_cases e : i = n
    · rw [if_pos (by rw [e]), if_neg]
      intro q
      have : vl tx n 48 i = 1000 := if_neg (fun z => by omega)
      omega
    · rw [if_neg (nI_ne e (by omega) (by omega)), ov_ck_t (ib_nI (by omega) (by omega)), nI_clamp (by omega), hx.2 i (by omega), s144]
      have eb : btv tx n i = nI (tx i) := if_pos (by omega)
      rcases vl_sp (i := i) ht hn (.inl rfl) with ⟨v1, v2, v3, v4, v5⟩ | ⟨v1, v2, v3⟩
      · rw [eb] at v5
        rw [show (48 : Int32) = nI 48 from rfl, v5]
        by_cases q : lo ≤ vl tx n 48 i ∧ vl tx n 48 i ≤ hi
        · rw [if_pos ⟨le_nI q.1 (by omega), le_nI q.2 (by omega)⟩, Option.bind_some, if_neg (by decide), up_eq, nI_1, nI_pred, ov_ck_t (ib_nI (by omega) (by omega)), up_n1 (show 43 ≠ 42 by decide), nI_clamp (by omega), hx.2 i (by omega), v5, if_pos ⟨q.1, q.2, l100⟩]
        · rw [if_neg (fun z => q ⟨(nI_leI (by omega) (by omega)).mp z.1, (nI_leI (by omega) (by omega)).mp z.2⟩), Option.bind_some, if_pos rfl, if_neg (fun z => q ⟨z.1, z.2.1⟩)]
      · rw [eb] at v3
        rw [show (48 : Int32) = nI 48 from rfl, if_neg, Option.bind_some, if_pos rfl, if_neg (fun z => by omega)]
        rintro ⟨q1, q2⟩
        have := Int32.lt_of_le_of_lt q1 v3
        exact nI_l0 (show lo < 2 ^ 31 by omega) this
  · exact .inr (by omega)
theorem s149 (ok : Qok Q) (h : rd2 T Q) : f149 T = some (nI (tkm Q)) := by
  obtain ⟨⟨q1, q2, q3, q4⟩, q5, q6, q7, q8⟩ := ok
  unfold f149
  refine lp_bind (fun k => (nI (mkl k (dr Q)), nI k)) (pD Q) (e := nI (mkl (pD Q) (dr Q))) rfl (fun k hk => ?_) ?_ (by omega) ?_
  · show b149_4 T (nI (mkl k (dr Q))) (nI k) = some (.inl (nI (mkl k (dr Q) ||| 2 ^ dr Q k), nI (k + 1)))
    have := (q5 k hk).2
    unfold b149_4
    rw [h.1.1, if_neg (nle_nI hk (by omega)), ov_ck_t (ib_nI (by omega) (by omega)), nI_clamp (by omega), h.2.1 k hk, nI_sh1 _ (by omega), nI_or, nI_1]
  · show b149_4 T _ (nI (pD Q)) = _
    unfold b149_4
    rw [h.1.1, if_pos (le_nI (Nat.le_refl _) (by omega))]
  · refine lp_bind (fun k => (nI (mkl (pD Q) (dr Q) ||| mkl k (st Q)), nI k)) (pF Q) (e := nI (mkl (pD Q) (dr Q) ||| mkl (pF Q) (st Q))) (by show (nI (mkl (pD Q) (dr Q) ||| 0), nI 0) = _; rw [Nat.or_zero]; rfl) (fun k hk => ?_) ?_ (by omega) rfl
    · show b149_31 T (nI (mkl (pD Q) (dr Q) ||| mkl k (st Q))) (nI k) = some (.inl (nI (mkl (pD Q) (dr Q) ||| (mkl k (st Q) ||| 2 ^ st Q k)), nI (k + 1)))
      have := q6 k hk
      unfold b149_31
      rw [h.1.2.1, if_neg (nle_nI hk (by omega)), ov_ck_t (ib_nI (by omega) (by omega)), nI_clamp (by omega), h.2.2.1 k hk, nI_sh1 _ (by omega), nI_or, nI_1, Nat.or_assoc]
    · show b149_31 T _ (nI (pF Q)) = _
      unfold b149_31
      rw [h.1.2.1, if_pos (le_nI (Nat.le_refl _) (by omega))]
theorem s151 (ht : ∀ j, j < 60 → tx j < 256) (hn : n ≤ 60) (ok : Qok Q) (h : rd2 T Q) (hx : txt2 T tx n) (hp : T 42 3 = nI i) (hi : i ≤ n) {lo : Nat} (hl : lo ≤ 12) : f151 T (nI lo) = some (if lo ≤ vl tx n 97 i ∧ vl tx n 97 i < 18 ∧ (tkm Q).testBit (vl tx n 97 i) = false then (nI (vl tx n 97 i), ov_up T 42 3 (nI (i + 1))) else (-9, T)) := by
  have tl := tkm_lt ok
  unfold f151
  rw [hp, hx.1]
  by_cases e : i = n
  · have v : vl tx n 97 i = 1000 := if_neg (fun z => by omega)
    rw [if_pos (by rw [e]), if_neg (fun q => by omega)]
    unfold f151_28
    rw [show (17 : Int64) = (17 : Int32).toInt64 from rfl, s144, if_neg, Option.bind_some, if_pos rfl]
    rintro ⟨q1, q2⟩
    have : nI lo < 0 := Int32.lt_of_le_of_lt q1 (by decide)
    exact nI_l0 (show lo < 2 ^ 31 by omega) this
  · rw [if_neg (nI_ne e (by omega) (by omega)), ov_ck_t (ib_nI (by omega) (by omega)), nI_clamp (by omega), hx.2 i (by omega)]
    unfold f151_28
    rw [show (17 : Int64) = (17 : Int32).toInt64 from rfl, s144, s149 ok h]
    have eb : btv tx n i = nI (tx i) := if_pos (by omega)
    rcases vl_sp (i := i) ht hn (.inr rfl) with ⟨v1, v2, v3, v4, v5⟩ | ⟨v1, v2, v3⟩
    · rw [eb] at v5
      rw [show (97 : Int32) = nI 97 from rfl, v5]
      by_cases q : lo ≤ vl tx n 97 i ∧ vl tx n 97 i < 18
      · rw [if_pos ⟨le_nI q.1 (by omega), show nI (vl tx n 97 i) ≤ (17 : Int32) from le_nI (b := 17) (by omega) (by omega)⟩, Option.bind_some, if_neg (by decide), Option.bind_some, s152 (by omega) (by omega), Option.bind_some]
        cases t : (tkm Q).testBit (vl tx n 97 i)
        · rw [if_c0, if_pos ⟨q.1, q.2, rfl⟩, hp, nI_1]
        · rw [if_c1, if_neg (fun z => Bool.noConfusion z.2.2)]
      · rw [if_neg (fun z => q ⟨(nI_leI (by omega) (by omega)).mp z.1, by have := (nI_leI (b := 17) (by omega) (by omega)).mp z.2; omega⟩), Option.bind_some, if_pos rfl, if_neg (fun z => q ⟨z.1, z.2.1⟩)]
    · rw [eb] at v3
      rw [show (97 : Int32) = nI 97 from rfl, if_neg, Option.bind_some, if_pos rfl, if_neg (fun z => by omega)]
      rintro ⟨q1, q2⟩
      have := Int32.lt_of_le_of_lt q1 v3
      exact nI_l0 (show lo < 2 ^ 31 by omega) this
theorem s148_118 (hp : T 42 3 = nI (i + 1)) : f148_118 T = some (0, ov_up T 42 3 (nI i)) := by
  unfold f148_118
  rw [hp, nI_pred]
theorem s150 (ht : ∀ j, j < 60 → tx j < 256) (hn : n ≤ 60) (ok : Qok Q) (h : rd2 T Q) (hx : txt2 T tx n) (hp : T 42 3 = nI (i + 1)) (hi : i < n) (h3 : pD Q < 3) : ∃ b T', f150 T = some (b, T') ∧ sm_S T T' ∧ ((12 ≤ vl tx n 97 (i + 1) ∧ vl tx n 97 (i + 1) < 18 ∧ (tkm Q).testBit (vl tx n 97 (i + 1)) = false ∧ b = 1 ∧ T' 42 3 = nI (i + 2) ∧ rd2 T' (addD Q (vl tx n 97 (i + 1)))) ∨ (¬ (12 ≤ vl tx n 97 (i + 1) ∧ vl tx n 97 (i + 1) < 18 ∧ (tkm Q).testBit (vl tx n 97 (i + 1)) = false) ∧ b = 0 ∧ T' = T)) := by
  unfold f150 f150_33
  rw [show (12 : Int32) = nI 12 from rfl, s151 ht hn ok h hx hp (by omega) (Nat.le_refl _), Option.bind_some]
  by_cases q : 12 ≤ vl tx n 97 (i + 1) ∧ vl tx n 97 (i + 1) < 18 ∧ (tkm Q).testBit (vl tx n 97 (i + 1)) = false
  · rw [if_pos q]
    dsimp only
    have m9 := nI_m9 (show vl tx n 97 (i + 1) < 2 ^ 31 by omega)
    rw [if_neg m9, if_neg m9, up_n2 (show 13 ≠ 3 by decide), h.1.1, ov_ck_t (ib_nI h3 (by omega)), nI_clamp (by omega), up_n1 (show 42 ≠ 49 by decide), up_n2 (show 13 ≠ 3 by decide), h.1.1, nI_1]
    refine ⟨1, _, rfl, sm_tr (sm_up rfl) (sm_tr (sm_up rfl) (sm_up rfl)), .inl ⟨q.1, q.2.1, q.2.2, rfl, ?_, rd2_D (rd2_p h)⟩⟩
    rw [up_n2 (by decide), up_n1 (by decide), up_eq]
  · rw [if_neg q]
    dsimp only
    rw [if_pos rfl, if_pos rfl]
    exact ⟨0, T, rfl, sm_rf, .inr ⟨q, rfl, rfl⟩⟩
theorem s153 (ht : ∀ j, j < 60 → tx j < 256) (hn : n ≤ 60) (ok : Qok Q) (h : rd2 T Q) (hx : txt2 T tx n) (hp : T 42 3 = nI (i + 1)) (hi : i < n) (h3 : pF Q < 4) : ∃ b T', f153 T = some (b, T') ∧ sm_S T T' ∧ ((vl tx n 97 (i + 1) < 18 ∧ (tkm Q).testBit (vl tx n 97 (i + 1)) = false ∧ b = 1 ∧ T' 42 3 = nI (i + 2) ∧ rd2 T' (addF Q (vl tx n 97 (i + 1)))) ∨ (¬ (vl tx n 97 (i + 1) < 18 ∧ (tkm Q).testBit (vl tx n 97 (i + 1)) = false) ∧ b = 0 ∧ T' = T)) := by
  unfold f153 f153_32
  have e0 : f151 T (0 : Int32) = _ := s151 (lo := 0) ht hn ok h hx hp (by omega) (by omega)
  rw [e0, Option.bind_some]
  by_cases q : vl tx n 97 (i + 1) < 18 ∧ (tkm Q).testBit (vl tx n 97 (i + 1)) = false
  · rw [if_pos (show 0 ≤ vl tx n 97 (i + 1) ∧ vl tx n 97 (i + 1) < 18 ∧ (tkm Q).testBit (vl tx n 97 (i + 1)) = false from ⟨Nat.zero_le _, q⟩)]
    dsimp only
    have m9 := nI_m9 (show vl tx n 97 (i + 1) < 2 ^ 31 by omega)
    rw [if_neg m9, if_neg m9, up_n2 (show 15 ≠ 3 by decide), h.1.2.1, ov_ck_t (ib_nI h3 (by omega)), nI_clamp (by omega), up_n1 (show 42 ≠ 50 by decide), up_n2 (show 15 ≠ 3 by decide), h.1.2.1, nI_1]
    refine ⟨1, _, rfl, sm_tr (sm_up rfl) (sm_tr (sm_up rfl) (sm_up rfl)), .inl ⟨q.1, q.2, rfl, ?_, rd2_F (rd2_p h)⟩⟩
    rw [up_n2 (by decide), up_n1 (by decide), up_eq]
  · rw [if_neg (show ¬ (0 ≤ vl tx n 97 (i + 1) ∧ vl tx n 97 (i + 1) < 18 ∧ (tkm Q).testBit (vl tx n 97 (i + 1)) = false) from fun z => q z.2)]
    dsimp only
    rw [if_pos rfl, if_pos rfl]
    exact ⟨0, T, rfl, sm_rf, .inr ⟨q, rfl, rfl⟩⟩
end
