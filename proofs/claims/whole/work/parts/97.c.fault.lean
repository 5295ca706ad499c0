-- THE WHOLE TEXT READ, BOTH SIDES; CALLS: fault
section
variable {T : ov_S} {Q : pl_T} {a n i : Nat} {tx : Nat → Nat}
theorem s154 (ht : ∀ j, j < 60 → tx j < 256) (hn : n ≤ 60) (h : rd2 T Q) (hx : txt2 T tx n) (hp : T 42 3 = nI (i + 1)) (hi : i < n) (h3 : pN Q < 6) : ∃ b T', f154 T = some (b, T') ∧ sm_S T T' ∧ ((1 ≤ vl tx n 48 (i + 1) ∧ vl tx n 48 (i + 1) ≤ 9 ∧ vl tx n 48 (i + 2) ≤ 3 ∧ b = 1 ∧ T' 42 3 = nI (i + 3) ∧ rd2 T' (addP Q (vl tx n 48 (i + 1)) (vl tx n 48 (i + 2)))) ∨ (¬ (1 ≤ vl tx n 48 (i + 1) ∧ vl tx n 48 (i + 1) ≤ 9) ∧ b = 0 ∧ T' = T) ∨ ((1 ≤ vl tx n 48 (i + 1) ∧ vl tx n 48 (i + 1) ≤ 9) ∧ ¬ vl tx n 48 (i + 2) ≤ 3 ∧ b = 0 ∧ T' = ov_up T 42 3 (nI (i + 2)))) := by
  have e1 : f155 T (1 : Int32) (9 : Int32) = _ := (s155 (lo := 1) ht hn hx hp (by omega) (show 9 ≤ 9 by omega)).resolve_right (by omega)
  unfold f154
  rw [e1, Option.bind_some]
  by_cases q : 1 ≤ vl tx n 48 (i + 1) ∧ vl tx n 48 (i + 1) ≤ 9
  · have lt : i + 1 < n := by
      rcases vl_sp (i := i + 1) ht hn (.inl rfl) with ⟨v1, v2, v3⟩ | ⟨v1, v2⟩
      · exact v2
      · omega
    rw [if_pos (show 1 ≤ vl tx n 48 (i + 1) ∧ vl tx n 48 (i + 1) ≤ 9 ∧ 1 < 100 from ⟨q.1, q.2, by omega⟩)]
    dsimp only
    rw [if_neg (nI_m9 (show vl tx n 48 (i + 1) < 2 ^ 31 by omega))]
    have s1 : sm_S T (ov_up T 42 3 (nI (i + 2))) := sm_up rfl
    have e2 : f155 (ov_up T 42 3 (nI (i + 2))) (0 : Int32) (3 : Int32) = _ := (s155 (T := ov_up T 42 3 (nI (i + 2))) (i := i + 2) (lo := 0) ht hn (txt2_sm hx s1) up_eq (by omega) (show 3 ≤ 9 by omega)).resolve_right (by omega)
    rw [e2, Option.bind_some]
    unfold f154_25
    by_cases z : vl tx n 48 (i + 2) ≤ 3
    · rw [if_pos (show 0 ≤ vl tx n 48 (i + 2) ∧ vl tx n 48 (i + 2) ≤ 3 ∧ 0 < 100 from ⟨by omega, z, by omega⟩)]
      dsimp only
      have h2 := (rd2_p (x := nI (i + 3)) (rd2_p (x := nI (i + 2)) h)).1.2.2.1
      rw [if_neg (nI_m9 (show vl tx n 48 (i + 2) < 2 ^ 31 by omega)), h2, ov_ck_t (ib_nI h3 (by omega)), nI_clamp (by omega), up_n1 (show 42 ≠ 51 by decide), h2, ov_ck_t (ib_nI h3 (by omega)), nI_clamp (by omega), up_n1 (show 42 ≠ 52 by decide), up_n1 (show 42 ≠ 51 by decide), h2, nI_1]
      refine ⟨1, _, rfl, sm_tr s1 (sm_tr (sm_up rfl) (sm_tr (sm_up rfl) (sm_tr (sm_up rfl) (sm_up rfl)))), .inl ⟨q.1, q.2, z, rfl, ?_, rd2_P (rd2_p (rd2_p h))⟩⟩
      rw [up_n2 (by decide), up_n1 (by decide), up_n1 (by decide), up_eq]
    · rw [if_neg (show ¬ (0 ≤ vl tx n 48 (i + 2) ∧ vl tx n 48 (i + 2) ≤ 3 ∧ 0 < 100) from fun y => z y.2.1)]
      dsimp only
      rw [if_pos rfl]
      exact ⟨0, _, rfl, s1, .inr (.inr ⟨q, z, rfl, rfl⟩)⟩
  · rw [if_neg (show ¬ (1 ≤ vl tx n 48 (i + 1) ∧ vl tx n 48 (i + 1) ≤ 9 ∧ 1 < 100) from fun y => q ⟨y.1, y.2.1⟩)]
    dsimp only
    rw [if_pos rfl]
    unfold f154_25
    rw [if_pos rfl]
    exact ⟨0, T, rfl, sm_rf, .inr (.inl ⟨q, rfl, rfl⟩)⟩
theorem s156 (ht : ∀ j, j < 60 → tx j < 256) (hn : n ≤ 60) (ok : Qok Q) (h : rd2 T Q) (hx : txt2 T tx n) (hp : T 42 3 = nI (i + 1)) (hi : i < n) (h3 : pL Q < 6) (h2 : 2 ≤ pN Q) : ∃ b T', f156 T = some (b, T') ∧ sm_S T T' ∧ ((vl tx n 48 (i + 1) < pN Q ∧ (vl tx n 48 (i + 2) < pN Q ∧ vl tx n 48 (i + 2) ≠ vl tx n 48 (i + 1)) ∧ b = 1 ∧ T' 42 3 = nI (i + 3) ∧ rd2 T' (addL Q (vl tx n 48 (i + 1)) (vl tx n 48 (i + 2)))) ∨ (¬ vl tx n 48 (i + 1) < pN Q ∧ b = 0 ∧ T' = T) ∨ (vl tx n 48 (i + 1) < pN Q ∧ ¬ (vl tx n 48 (i + 2) < pN Q ∧ vl tx n 48 (i + 2) ≠ vl tx n 48 (i + 1)) ∧ b = 0 ∧ T' 42 3 = nI (i + 2) ∧ rd2 T' Q)) := by
  have h6 := ok.1.2.2.1
  have en : ∀ U : ov_S, rd2 U Q → U 42 17 - (1 : Int32) = nI (pN Q - 1) := fun U hU => by rw [hU.1.2.2.1, show (1 : Int32) = nI 1 from rfl, pk_sub (by omega)]
  have e1 : f155 T (0 : Int32) (nI (pN Q - 1)) = _ := (s155 (lo := 0) ht hn hx hp (by omega) (show pN Q - 1 ≤ 9 by omega)).resolve_right (by omega)
  unfold f156
  rw [en T h, e1, Option.bind_some]
  by_cases q : vl tx n 48 (i + 1) < pN Q
  · have lt : i + 1 < n := by
      rcases vl_sp (i := i + 1) ht hn (.inl rfl) with ⟨v1, v2, v3⟩ | ⟨v1, v2⟩
      · exact v2
      · omega
    rw [if_pos (show 0 ≤ vl tx n 48 (i + 1) ∧ vl tx n 48 (i + 1) ≤ pN Q - 1 ∧ 0 < 100 from ⟨by omega, by omega, by omega⟩)]
    dsimp only
    rw [if_neg (nI_m9 (show vl tx n 48 (i + 1) < 2 ^ 31 by omega))]
    have s1 : sm_S T (ov_up T 42 3 (nI (i + 2))) := sm_up rfl
    have r1 : rd2 (ov_up T 42 3 (nI (i + 2))) Q := rd2_p h
    have e2 : f155 (ov_up T 42 3 (nI (i + 2))) (0 : Int32) (nI (pN Q - 1)) = _ := (s155 (T := ov_up T 42 3 (nI (i + 2))) (i := i + 2) (lo := 0) ht hn (txt2_sm hx s1) up_eq (by omega) (show pN Q - 1 ≤ 9 by omega)).resolve_right (by omega)
    rw [en _ r1, e2, Option.bind_some]
    unfold f156_47
    by_cases z : vl tx n 48 (i + 2) < pN Q
    · rw [if_pos (show 0 ≤ vl tx n 48 (i + 2) ∧ vl tx n 48 (i + 2) ≤ pN Q - 1 ∧ 0 < 100 from ⟨by omega, by omega, by omega⟩)]
      dsimp only
      have m9 := nI_m9 (show vl tx n 48 (i + 2) < 2 ^ 31 by omega)
      by_cases y : vl tx n 48 (i + 2) = vl tx n 48 (i + 1)
      · rw [if_pos (show nI (vl tx n 48 (i + 2)) = nI (vl tx n 48 (i + 1)) by rw [y]), if_neg m9, if_pos (show nI (vl tx n 48 (i + 2)) = nI (vl tx n 48 (i + 1)) by rw [y]), up_eq, nI_pred]
        exact ⟨0, _, rfl, sm_tr s1 (sm_tr (sm_up rfl) (sm_up rfl)), .inr (.inr ⟨q, fun w => w.2 y, rfl, up_eq, rd2_p (rd2_p r1)⟩)⟩
      · have ny := nI_ne y (by omega) (by omega)
        have r3 : rd2 (ov_up (ov_up (ov_up T 42 3 (nI (i + 2))) 42 3 (nI (i + 2 + 1))) 42 3 (nI (i + 2 + 1))) Q := rd2_p (rd2_p r1)
        have h20 := r3.1.2.2.2
        rw [if_neg ny, if_neg m9, if_neg ny, up_eq, show nI (i + 2 + 1) - (0 : Int32) = nI (i + 2 + 1) by simp, h20, ov_ck_t (ib_nI h3 (by omega)), nI_clamp (by omega), up_n1 (show 42 ≠ 53 by decide), h20, ov_ck_t (ib_nI h3 (by omega)), nI_clamp (by omega), up_n1 (show 42 ≠ 54 by decide), up_n1 (show 42 ≠ 53 by decide), h20, nI_1]
        refine ⟨1, _, rfl, sm_tr s1 (sm_tr (sm_up rfl) (sm_tr (sm_up rfl) (sm_tr (sm_up rfl) (sm_tr (sm_up rfl) (sm_up rfl))))), .inl ⟨q, ⟨z, y⟩, rfl, ?_, rd2_L r3⟩⟩
        rw [up_n2 (by decide), up_n1 (by decide), up_n1 (by decide), up_eq]
    · rw [if_neg (show ¬ (0 ≤ vl tx n 48 (i + 2) ∧ vl tx n 48 (i + 2) ≤ pN Q - 1 ∧ 0 < 100) from fun y => by omega)]
      dsimp only
      rw [if_neg (show ¬ (-9 : Int32) = nI (vl tx n 48 (i + 1)) from fun y => nI_m9 (show vl tx n 48 (i + 1) < 2 ^ 31 by omega) y.symm), if_pos rfl, up_eq, show nI (i + 2) - (0 : Int32) = nI (i + 2) by simp]
      exact ⟨0, _, rfl, sm_tr s1 (sm_up rfl), .inr (.inr ⟨q, fun w => z w.1, rfl, up_eq, rd2_p r1⟩)⟩
  · rw [if_neg (show ¬ (0 ≤ vl tx n 48 (i + 1) ∧ vl tx n 48 (i + 1) ≤ pN Q - 1 ∧ 0 < 100) from fun y => by omega)]
    dsimp only
    rw [if_pos rfl]
    exact ⟨0, T, rfl, sm_rf, .inr (.inl ⟨q, rfl, rfl⟩)⟩
theorem s148 (ht : ∀ j, j < 60 → tx j < 256) (hn : n ≤ 60) (ok : Qok Q) (h : rd2 T Q) (hx : txt2 T tx n) (hp : T 42 3 = nI i) (hi : i < n) : out2 T tx n i Q (f148 T) := by
  have ti := ht i (by omega)
  have tl := tkm_lt ok
  have s1 : sm_S T (ov_up T 42 3 (nI (i + 1))) := sm_up rfl
  have r1 : rd2 (ov_up T 42 3 (nI (i + 1))) Q := rd2_p h
  have x1 := txt2_sm hx s1
  have p1 : (ov_up T 42 3 (nI (i + 1))) 42 3 = nI (i + 1) := up_eq
  have s18 : ∀ o, thg tx n i Q = (0, none) → o = f148_118 (ov_up T 42 3 (nI (i + 1))) → out2 T tx n i Q o := by
    intro o h0 e
    rw [e, s148_118 p1]
    exact ⟨0, 0, _, rfl, up_eq, sm_tr s1 (sm_up rfl), .inr ⟨h0, rfl, rd2_p r1⟩⟩
  have bk : ∀ (b : Int32) (T' : ov_S), b = 0 ∨ b = 1 → ov_ck (ov_b01 b) (some (b, T')) = some (b, T') := fun b T' q => ov_ck_t (by rcases q with rfl | rfl <;> rfl)
  unfold f148
  rw [hp, ov_ck_t (ib_nI (by omega) (by omega)), nI_clamp (by omega), hx.2 i (by omega), nI_1, r1.1.1]
  generalize hU : ov_up T 42 3 (nI (i + 1)) = U at s1 r1 x1 p1 s18
  by_cases c1 : tx i = 68
  · have e51 : f148_51 U (nI (tx i)) = f148_118 U := by
      unfold f148_51 f148_70 f148_90
      rw [c1]
      rfl
    rw [if_pos (show nI (tx i) = (68 : Int32) by rw [c1]; rfl)]
    by_cases h3 : 3 ≤ pD Q
    · rw [if_pos (show (3 : Int32) ≤ nI (pD Q) from le_nI (a := 3) h3 (by have := ok.1.1; omega))]
      exact s18 _ (by unfold thg; rw [if_pos c1, if_pos (.inl h3)]) e51
    · rw [if_neg (show ¬ (3 : Int32) ≤ nI (pD Q) from nle_nI (a := 3) (by omega) (by omega)), s149 ok r1, Option.bind_some, show (12 : Int32) = nI 12 from rfl, nI_shr (by omega) (by omega)]
      by_cases fl : tkm Q / 4096 = 63
      · rw [if_pos (show nI (tkm Q / 2 ^ 12) = (63 : Int32) by rw [show tkm Q / 2 ^ 12 = 63 from fl]; rfl)]
        exact s18 _ (by unfold thg; rw [if_pos c1, if_pos (.inr fl)]) e51
      · rw [if_neg (show ¬ nI (tkm Q / 2 ^ 12) = (63 : Int32) from nI_ne (b := 63) fl (by omega) (by omega))]
        have tg : thg tx n i Q = (if (cm 258048 (tkm Q)).testBit (vl tx n 97 (i + 1)) = true then (2, some (addD Q (vl tx n 97 (i + 1)))) else (1, none)) := by
          unfold thg
          rw [if_pos c1, if_neg (show ¬ (3 ≤ pD Q ∨ tkm Q / 4096 = 63) from fun q => q.elim h3 fl)]
        obtain ⟨b, T', t1, t2, t3⟩ := s150 ht hn ok r1 x1 p1 hi (by omega)
        rw [t1, Option.bind_some]
        rcases t3 with ⟨y1, y2, y3, y4, y5, y6⟩ | ⟨y1, y2, y3⟩
        · rw [if_pos (cm_bk.mpr ⟨y1, y2, y3⟩)] at tg
          rw [bk b T' (.inr y4)]
          exact ⟨2, b, T', rfl, y5, sm_tr s1 t2, .inl ⟨_, tg, y4, y6, Q_D ok (by omega) y1 y2⟩⟩
        · rw [if_neg (fun q => y1 (cm_bk.mp q))] at tg
          rw [bk b T' (.inl y2)]
          exact ⟨1, b, T', rfl, by rw [y3]; exact p1, sm_tr s1 t2, .inr ⟨tg, y2, by rw [y3]; exact r1⟩⟩
  rw [if_neg (show ¬ nI (tx i) = (68 : Int32) from nI_ne (b := 68) c1 (by omega) (by omega))]
  unfold f148_51
  by_cases c2 : tx i = 70
  · have e70 : f148_70 U (nI (tx i)) = f148_118 U := by
      unfold f148_70 f148_90
      rw [c2]
      rfl
    rw [if_pos (show nI (tx i) = (70 : Int32) by rw [c2]; rfl), r1.1.2.1]
    by_cases h3 : 4 ≤ pF Q
    · rw [if_pos (show (4 : Int32) ≤ nI (pF Q) from le_nI (a := 4) h3 (by have := ok.1.2.1; omega))]
      exact s18 _ (by unfold thg; rw [if_neg c1, if_pos c2, if_pos h3]) e70
    · rw [if_neg (show ¬ (4 : Int32) ≤ nI (pF Q) from nle_nI (a := 4) (by omega) (by omega))]
      have tg : thg tx n i Q = (if (cm 262143 (tkm Q)).testBit (vl tx n 97 (i + 1)) = true then (2, some (addF Q (vl tx n 97 (i + 1)))) else (1, none)) := by
        unfold thg
        rw [if_neg c1, if_pos c2, if_neg h3]
      obtain ⟨b, T', t1, t2, t3⟩ := s153 ht hn ok r1 x1 p1 hi (by omega)
      rw [t1, Option.bind_some]
      rcases t3 with ⟨y1, y2, y4, y5, y6⟩ | ⟨y1, y2, y3⟩
      · rw [if_pos (cm_al.mpr ⟨y1, y2⟩)] at tg
        rw [bk b T' (.inr y4)]
        exact ⟨2, b, T', rfl, y5, sm_tr s1 t2, .inl ⟨_, tg, y4, y6, Q_F ok (by omega) y1⟩⟩
      · rw [if_neg (fun q => y1 (cm_al.mp q))] at tg
        rw [bk b T' (.inl y2)]
        exact ⟨1, b, T', rfl, by rw [y3]; exact p1, sm_tr s1 t2, .inr ⟨tg, y2, by rw [y3]; exact r1⟩⟩
  rw [if_neg (show ¬ nI (tx i) = (70 : Int32) from nI_ne (b := 70) c2 (by omega) (by omega))]
  unfold f148_70
  by_cases c3 : tx i = 80
  · have e90 : f148_90 U (nI (tx i)) = f148_118 U := by
      unfold f148_90
      rw [c3]
      rfl
    rw [if_pos (show nI (tx i) = (80 : Int32) by rw [c3]; rfl), r1.1.2.2.1]
    by_cases h3 : 6 ≤ pN Q
    · rw [if_pos (show (6 : Int32) ≤ nI (pN Q) from le_nI (a := 6) h3 (by have := ok.1.2.2.1; omega))]
      exact s18 _ (by unfold thg; rw [if_neg c1, if_neg c2, if_pos c3, if_pos h3]) e90
    · rw [if_neg (show ¬ (6 : Int32) ≤ nI (pN Q) from nle_nI (a := 6) (by omega) (by omega))]
      have tg : thg tx n i Q = (if 1 ≤ vl tx n 48 (i + 1) ∧ vl tx n 48 (i + 1) ≤ 9 then (if vl tx n 48 (i + 2) ≤ 3 then (3, some (addP Q (vl tx n 48 (i + 1)) (vl tx n 48 (i + 2)))) else (2, none)) else (1, none)) := by
        unfold thg
        rw [if_neg c1, if_neg c2, if_pos c3, if_neg h3]
      obtain ⟨b, T', t1, t2, t3⟩ := s154 ht hn r1 x1 p1 hi (by omega)
      rw [t1, Option.bind_some]
      rcases t3 with ⟨y1, y2, y3, y4, y5, y6⟩ | ⟨y1, y2, y3⟩ | ⟨y1, y2, y3, y4⟩
      · rw [if_pos ⟨y1, y2⟩, if_pos y3] at tg
        rw [bk b T' (.inr y4)]
        exact ⟨3, b, T', rfl, y5, sm_tr s1 t2, .inl ⟨_, tg, y4, y6, Q_P ok (by omega) y1 y2 y3⟩⟩
      · rw [if_neg y1] at tg
        rw [bk b T' (.inl y2)]
        exact ⟨1, b, T', rfl, by rw [y3]; exact p1, sm_tr s1 t2, .inr ⟨tg, y2, by rw [y3]; exact r1⟩⟩
      · rw [if_pos y1, if_neg y2] at tg
        rw [bk b T' (.inl y3)]
        exact ⟨2, b, T', rfl, by rw [y4, up_eq], sm_tr s1 t2, .inr ⟨tg, y3, by rw [y4]; exact rd2_p r1⟩⟩
  rw [if_neg (show ¬ nI (tx i) = (80 : Int32) from nI_ne (b := 80) c3 (by omega) (by omega))]
  unfold f148_90
  by_cases c4 : tx i = 76
  · rw [if_pos (show nI (tx i) = (76 : Int32) by rw [c4]; rfl), r1.1.2.2.2, r1.1.2.2.1]
    by_cases h3 : 6 ≤ pL Q
    · rw [if_pos (show (6 : Int32) ≤ nI (pL Q) from le_nI (a := 6) h3 (by have := ok.1.2.2.2; omega))]
      exact s18 _ (by unfold thg; rw [if_neg c1, if_neg c2, if_neg c3, if_pos c4, if_pos (.inl h3)]) rfl
    · rw [if_neg (show ¬ (6 : Int32) ≤ nI (pL Q) from nle_nI (a := 6) (by omega) (by omega))]
      have h6 := ok.1.2.2.1
      by_cases n2 : pN Q < 2
      · rw [if_pos (show nI (pN Q) ≤ (1 : Int32) from le_nI (b := 1) (by omega) (by omega))]
        exact s18 _ (by unfold thg; rw [if_neg c1, if_neg c2, if_neg c3, if_pos c4, if_pos (.inr n2)]) rfl
      · rw [if_neg (show ¬ nI (pN Q) ≤ (1 : Int32) from nle_nI (b := 1) (by omega) (by omega))]
        have tg : thg tx n i Q = (if vl tx n 48 (i + 1) < pN Q then (if vl tx n 48 (i + 2) < pN Q ∧ vl tx n 48 (i + 2) ≠ vl tx n 48 (i + 1) then (3, some (addL Q (vl tx n 48 (i + 1)) (vl tx n 48 (i + 2)))) else (2, none)) else (1, none)) := by
          unfold thg
          rw [if_neg c1, if_neg c2, if_neg c3, if_pos c4, if_neg (show ¬ (6 ≤ pL Q ∨ pN Q < 2) from fun q => q.elim h3 n2)]
        obtain ⟨b, T', t1, t2, t3⟩ := s156 ht hn ok r1 x1 p1 hi (by omega) (by omega)
        rw [t1, Option.bind_some]
        rcases t3 with ⟨y1, y2, y4, y5, y6⟩ | ⟨y1, y2, y3⟩ | ⟨y1, y2, y3, y4, y5⟩
        · rw [if_pos y1, if_pos y2] at tg
          rw [bk b T' (.inr y4)]
          exact ⟨3, b, T', rfl, y5, sm_tr s1 t2, .inl ⟨_, tg, y4, y6, Q_L ok (by omega) y1 y2.1 y2.2⟩⟩
        · rw [if_neg y1] at tg
          rw [bk b T' (.inl y2)]
          exact ⟨1, b, T', rfl, by rw [y3]; exact p1, sm_tr s1 t2, .inr ⟨tg, y2, by rw [y3]; exact r1⟩⟩
        · rw [if_pos y1, if_neg y2] at tg
          rw [bk b T' (.inl y3)]
          exact ⟨2, b, T', rfl, y4, sm_tr s1 t2, .inr ⟨tg, y3, y5⟩⟩
  rw [if_neg (show ¬ nI (tx i) = (76 : Int32) from nI_ne (b := 76) c4 (by omega) (by omega))]
  exact s18 _ (by unfold thg; rw [if_neg c1, if_neg c2, if_neg c3, if_neg c4]) rfl
end
-- all of it
def prR (tx : Nat → Nat) (n : Nat) : Nat → Nat → pl_T → Option Nat
  | 0, _, _ => none
  | f + 1, i, Q => if n ≤ i then none else match thg tx n i Q with
    | (g, some Q') => prR tx n f (i + g) Q'
    | (g, none) => some (i + g)
def prQ (tx : Nat → Nat) (n : Nat) : Nat → Nat → pl_T → pl_T
  | 0, _, Q => Q
  | f + 1, i, Q => if n ≤ i then Q else match thg tx n i Q with
    | (g, some Q') => prQ tx n f (i + g) Q'
    | (_, none) => Q
theorem pr_e {tx : Nat → Nat} {n f i : Nat} {Q : pl_T} (h : n ≤ i) : prR tx n f i Q = none ∧ prQ tx n f i Q = Q := by
  cases f with
  | zero => exact ⟨rfl, rfl⟩
  | succ f => exact ⟨if_pos h, if_pos h⟩
theorem pr_s {tx : Nat → Nat} {n f i g : Nat} {Q Q' : pl_T} (h : ¬ n ≤ i) (e : thg tx n i Q = (g, some Q')) : prR tx n (f + 1) i Q = prR tx n f (i + g) Q' ∧ prQ tx n (f + 1) i Q = prQ tx n f (i + g) Q' := by
  constructor
  · show (if n ≤ i then none else match thg tx n i Q with | (g, some Q') => prR tx n f (i + g) Q' | (g, none) => some (i + g)) = _
    rw [if_neg h, e]
  · show (if n ≤ i then Q else match thg tx n i Q with | (g, some Q') => prQ tx n f (i + g) Q' | (_, none) => Q) = _
    rw [if_neg h, e]
theorem pr_n {tx : Nat → Nat} {n f i g : Nat} {Q : pl_T} (h : ¬ n ≤ i) (e : thg tx n i Q = (g, none)) : prR tx n (f + 1) i Q = some (i + g) := by
  show (if n ≤ i then none else match thg tx n i Q with | (g, some Q') => prR tx n f (i + g) Q' | (g, none) => some (i + g)) = _
  rw [if_neg h, e]
def txt1 (T : ov_S) (tx : Nat → Nat) (n : Nat) : Prop := T 2 1 = nI n ∧ ∀ j, j < 60 → T 3 j = nI (tx j)
theorem txt1_ag {T T' : ov_S} {a n : Nat} {tx : Nat → Nat} (ha : 4 ≤ a) (h : txt1 T tx n) (s : agD a T T') : txt1 T' tx n := ⟨by rw [s 2 (by omega)]; exact h.1, fun j hj => by rw [s 3 (by omega)]; exact h.2 j hj⟩
theorem s20 {T : ov_S} {n i : Nat} {tx : Nat → Nat} (hn : n ≤ 60) (hx : txt1 T tx n) (hi : i < 1000) : f20 T (nI i) = some (btv tx n i) := by
  unfold f20 btv
  rw [if_neg (nI_l0 (by omega)), hx.1]
  by_cases h : i < n
  · rw [if_neg (nle_nI h (by omega)), if_pos h, ov_ck_t (ib_nI (by omega) (by omega)), nI_clamp (by omega), hx.2 i (by omega)]
  · rw [if_pos (le_nI (by omega) (by omega)), if_neg h]
theorem s18_b {T : ov_S} {Q : pl_T} {a n i : Nat} {tx : Nat → Nat} (ha : 4 ≤ a) (ht : ∀ j, j < 60 → tx j < 256) (hn : n ≤ 60) (hi : i < n) (ok : Qok Q) (h : rd1 a T Q) (hx : txt1 T tx n) : ∃ g o T', thg tx n i Q = (g, o) ∧ agD a T T' ∧ g ≤ 3 ∧ ((∃ Q', o = some Q' ∧ rd1 a T' Q' ∧ Qok Q' ∧ 2 ≤ g ∧ b18_18 a (nI i) T = some (.inl (nI (i + g), T'))) ∨ (o = none ∧ b18_18 a (nI i) T = some (.inr (.inr (nI (i + g), T'))))) := by
  have ti := ht i (by omega)
  obtain ⟨g, o, T', q1, q2, q3, q4, q5⟩ := s21 (i := i) ht hn (by omega) ok h
  have k : ∀ sz, sz ≤ 3 → sz = (if tx i = 68 ∨ tx i = 70 then 2 else 3) → f18_49_18 a T (nI i) (nI (tx i)) (nI sz) = (if nI sz ≤ nI g then some (.inl (nI i + nI sz, T')) else some (.inr (.inr (nI i + nI g, T')))) := by
    intro sz _ _
    unfold f18_49_18
    rw [nI_1, show (2 : Int32) = nI 2 from rfl, nI_add, s20 hn hx (by omega), Option.bind_some, s20 hn hx (by omega), Option.bind_some, q2, Option.bind_some]
  have c0 : b18_18 a (nI i) T = f18_49_18 a T (nI i) (nI (tx i)) (nI (if tx i = 68 ∨ tx i = 70 then 2 else 3)) := by
    unfold b18_18 f14 f18_44_18
    rw [Option.bind_some, hx.1, if_neg (nle_nI hi (by omega)), s20 hn hx (by omega), Option.bind_some, show btv tx n i = nI (tx i) from if_pos hi]
    by_cases c1 : tx i = 68
    · rw [if_pos (show nI (tx i) = (68 : Int32) by rw [c1]; rfl), if_pos (.inl c1)]
      rfl
    · rw [if_neg (show ¬ nI (tx i) = (68 : Int32) from nI_ne (b := 68) c1 (by omega) (by omega))]
      by_cases c2 : tx i = 70
      · rw [if_pos (show nI (tx i) = (70 : Int32) by rw [c2]; rfl), if_pos (.inr c2)]
        rfl
      · rw [if_neg (show ¬ nI (tx i) = (70 : Int32) from nI_ne (b := 70) c2 (by omega) (by omega)), if_neg (fun q => q.elim c1 c2)]
        rfl
  have sz3 : (if tx i = 68 ∨ tx i = 70 then 2 else 3) ≤ 3 ∧ 2 ≤ (if tx i = 68 ∨ tx i = 70 then 2 else 3) := by split <;> omega
  rw [k _ sz3.1 rfl] at c0
  generalize (if tx i = 68 ∨ tx i = 70 then 2 else 3) = sz at q5 c0 sz3
  refine ⟨g, o, T', q1, q3, q4, ?_⟩
  rcases q5 with ⟨Q', z1, z2, z3, z4⟩ | ⟨z1, z2, z3⟩
  · left
    rw [if_pos (le_nI (by omega) (by omega)), nI_add, ← z4] at c0
    exact ⟨Q', z1, z2, z3, by omega, c0⟩
  · right
    rw [if_neg (nle_nI z3 (by omega)), nI_add] at c0
    exact ⟨z1, c0⟩
theorem thg_g {tx : Nat → Nat} {n i g : Nat} {Q Q' : pl_T} (h : thg tx n i Q = (g, some Q')) : 2 ≤ g ∧ g ≤ 3 := by
  unfold thg at h
  (repeat' split at h) <;> (cases h) <;> omega
theorem rl1_e {a n i M : Nat} {tx : Nat → Nat} {T : ov_S} (hn : n ≤ 60) (hi : i < 200) (hx : txt1 T tx n) (e : n ≤ i) : ov_lp (fun s => b18_18 a s.1 s.2) (M + 1) (nI i, T) = some (.inl T) := by
  apply lp_stop
  show b18_18 a (nI i) T = _
  unfold b18_18 f14
  rw [Option.bind_some, hx.1, if_pos (le_nI e (by omega))]
theorem rl1 {a n : Nat} {tx : Nat → Nat} (ha : 4 ≤ a) (ht : ∀ j, j < 60 → tx j < 256) (hn : n ≤ 60) : ∀ f i N (T : ov_S) (Q : pl_T), n < i + f → f < N → i < 100 → Qok Q → rd1 a T Q → txt1 T tx n → ∃ e T', ov_lp (fun s => b18_18 a s.1 s.2) N (nI i, T) = some e ∧ agD a T T' ∧ ((prR tx n f i Q = none ∧ e = .inl T' ∧ rd1 a T' (prQ tx n f i Q) ∧ Qok (prQ tx n f i Q)) ∨ ∃ p, prR tx n f i Q = some p ∧ p < 200 ∧ e = .inr (nI p, T'))
  | 0, i, N, T, Q, hf, hN, hi, ok, h, hx => by
    obtain ⟨M, rfl⟩ : ∃ M, N = M + 1 := ⟨N - 1, by omega⟩
    exact ⟨.inl T, T, rl1_e hn (by omega) hx (by omega), agD_rf, .inl ⟨rfl, rfl, h, ok⟩⟩
  | f + 1, i, N, T, Q, hf, hN, hi, ok, h, hx => by
    obtain ⟨M, rfl⟩ : ∃ M, N = M + 1 := ⟨N - 1, by omega⟩
    by_cases e : n ≤ i
    · obtain ⟨p1, p2⟩ := pr_e (tx := tx) (f := f + 1) (Q := Q) e
      exact ⟨.inl T, T, rl1_e hn (by omega) hx e, agD_rf, .inl ⟨p1, rfl, by rw [p2]; exact h, by rw [p2]; exact ok⟩⟩
    · obtain ⟨g, o, T1, t1, t2, t3, t4⟩ := s18_b (i := i) ha ht hn (by omega) ok h hx
      rcases t4 with ⟨Q', z1, z2, z3, z4, z5⟩ | ⟨z1, z5⟩
      · rw [z1] at t1
        obtain ⟨p1, p2⟩ := pr_s (f := f) e t1
        obtain ⟨e', T2, y1, y2, y3⟩ := rl1 ha ht hn f (i + g) M T1 Q' (by omega) (by omega) (by omega) z3 z2 (txt1_ag ha hx t2)
        rw [lp_go (body := fun s => b18_18 a s.1 s.2) (s := (nI i, T)) (s' := (nI (i + g), T1)) z5, p1, p2]
        exact ⟨e', T2, y1, agD_tr t2 y2, y3⟩
      · rw [z1] at t1
        refine ⟨_, T1, lp_stop (body := fun s => b18_18 a s.1 s.2) (s := (nI i, T)) z5, t2, .inr ⟨i + g, pr_n e t1, by omega, rfl⟩⟩
theorem rl2_e {n i M : Nat} {tx : Nat → Nat} {T : ov_S} (hn : n ≤ 60) (hi : i < 200) (hp : T 42 3 = nI i) (hx : txt2 T tx n) (e : n ≤ i) : ov_lp (fun s => b147_50 s) (M + 1) T = some (.inl T) := by
  apply lp_stop
  show b147_50 T = _
  unfold b147_50
  rw [hx.1, hp, if_pos (le_nI e (by omega))]
theorem rl2 {n : Nat} {tx : Nat → Nat} (ht : ∀ j, j < 60 → tx j < 256) (hn : n ≤ 60) : ∀ f i N (T : ov_S) (Q : pl_T), n < i + f → f < N → i < 100 → T 42 3 = nI i → Qok Q → rd2 T Q → txt2 T tx n → ∃ e T', ov_lp (fun s => b147_50 s) N T = some e ∧ sm_S T T' ∧ ((prR tx n f i Q = none ∧ e = .inl T' ∧ rd2 T' (prQ tx n f i Q)) ∨ ∃ p, prR tx n f i Q = some p ∧ e = .inr (nI p, T'))
  | 0, i, N, T, Q, hf, hN, hi, hp, ok, h, hx => by
    obtain ⟨M, rfl⟩ : ∃ M, N = M + 1 := ⟨N - 1, by omega⟩
    exact ⟨.inl T, T, rl2_e hn (by omega) hp hx (by omega), sm_rf, .inl ⟨rfl, rfl, h⟩⟩
  | f + 1, i, N, T, Q, hf, hN, hi, hp, ok, h, hx => by
    obtain ⟨M, rfl⟩ : ∃ M, N = M + 1 := ⟨N - 1, by omega⟩
    by_cases e : n ≤ i
    · obtain ⟨p1, p2⟩ := pr_e (tx := tx) (f := f + 1) (Q := Q) e
      exact ⟨.inl T, T, rl2_e hn (by omega) hp hx e, sm_rf, .inl ⟨p1, rfl, by rw [p2]; exact h⟩⟩
    · obtain ⟨g, b, T1, t1, t2, t3, t4⟩ := s148 ht hn ok h hx hp (by omega)
      have bb : b147_50 T = (if b = 0 then some (.inr (.inr (T1 42 3, T1))) else some (.inl T1)) := by
        unfold b147_50
        rw [hx.1, hp, if_neg (nle_nI (by omega) (by omega)), t1]
        rfl
      rcases t4 with ⟨Q', z1, z2, z3, z4⟩ | ⟨z1, z2, z3⟩
      · obtain ⟨p1, p2⟩ := pr_s (f := f) e z1
        rw [z2, if_neg (by decide)] at bb
        have g2 := thg_g z1
        obtain ⟨e', T2, y1, y2, y3⟩ := rl2 ht hn f (i + g) M T1 Q' (by omega) (by omega) (by omega) t2 z4 z3 (txt2_sm hx t3)
        rw [lp_go (body := fun s => b147_50 s) bb, p1, p2]
        exact ⟨e', T2, y1, sm_tr t3 y2, y3⟩
      · rw [z2, if_pos rfl, t2] at bb
        exact ⟨_, T1, lp_stop (body := fun s => b147_50 s) bb, t3, .inr ⟨i + g, pr_n e z1, rfl⟩⟩
