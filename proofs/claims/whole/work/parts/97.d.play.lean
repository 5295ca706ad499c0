-- CALLS: fault, play
def Q0 : pl_T := fun _ _ => 0
def rdR (tx : Nat → Nat) (n : Nat) : Option Nat := if 0 < n ∧ tx 0 = 69 then prR tx n 61 1 Q0 else some 0
def rdQ (tx : Nat → Nat) (n : Nat) : pl_T := prQ tx n 61 1 Q0
def rdA (tx : Nat → Nat) (n : Nat) : Int32 := match rdR tx n with
  | none => -9
  | some p => nI p
theorem Q0_ok : Qok Q0 := ⟨⟨by decide, by decide, by decide, by decide⟩, fun d h => absurd h (Nat.not_lt_zero d), fun d h => absurd h (Nat.not_lt_zero d), fun d h => absurd h (Nat.not_lt_zero d), fun d h => absurd h (Nat.not_lt_zero d)⟩
theorem s19 {a : Nat} {S : ov_S} : ∃ T, f19 a S = some T ∧ agD a S T ∧ rd1 a T Q0 := by
  refine ⟨_, rfl, agD_tr (agD_up (by omega) (by omega)) (agD_tr (agD_up (by omega) (by omega)) (agD_tr (agD_up (by omega) (by omega)) (agD_tr (agD_up (by omega) (by omega)) (agD_tr (agD_up (by omega) (by omega)) (agD_up (by omega) (by omega)))))), ⟨?_, ?_, ?_, ?_⟩, fun d h => absurd h (Nat.not_lt_zero d), fun d h => absurd h (Nat.not_lt_zero d), fun d h => absurd h (Nat.not_lt_zero d), fun d h => absurd h (Nat.not_lt_zero d), ?_, ?_⟩
  · rw [up_n2 (by decide), up_n2 (by decide), up_n2 (by decide), up_n2 (by decide), up_n2 (by decide), up_eq]
    rfl
  · rw [up_n2 (by decide), up_n2 (by decide), up_n2 (by decide), up_n2 (by decide), up_eq]
    rfl
  · rw [up_n2 (by decide), up_n2 (by decide), up_n2 (by decide), up_eq]
    rfl
  · rw [up_n2 (by decide), up_n2 (by decide), up_eq]
    rfl
  · rw [up_n2 (by decide), up_eq]
    rfl
  · rw [up_eq]
    rfl
theorem s18 {S : ov_S} {a n : Nat} {tx : Nat → Nat} (ha : 4 ≤ a) (ht : ∀ j, j < 60 → tx j < 256) (hn : n ≤ 60) (hx : txt1 S tx n) : ∃ T, f18 a S = some (rdA tx n, T) ∧ agD a S T ∧ ((rdR tx n = none ∧ rdA tx n = -9 ∧ rd1 a T (rdQ tx n) ∧ Qok (rdQ tx n)) ∨ (∃ p, rdR tx n = some p ∧ p < 200 ∧ rdA tx n = nI p)) := by
  obtain ⟨T0, t1, t2, t3⟩ := s19 (a := a) (S := S)
  have x0 := txt1_ag ha hx t2
  have b0 : f20 T0 (0 : Int32) = some (btv tx n 0) := s20 (i := 0) hn x0 (by omega)
  have t0 := ht 0 (by omega)
  unfold f18
  rw [t1, Option.bind_some, b0, Option.bind_some]
  by_cases e : 0 < n ∧ tx 0 = 69
  · have eb : btv tx n 0 = 69 := by
      rw [show btv tx n 0 = nI (tx 0) from if_pos e.1, e.2]
      rfl
    rw [if_pos eb]
    obtain ⟨e', T1, y1, y2, y3⟩ := rl1 (a := a) ha ht hn 61 1 2000 T0 Q0 (by omega) (by omega) (by omega) Q0_ok t3 x0
    have y1 : ov_lp (fun s => b18_18 a s.1 s.2) 2000 ((1 : Int32), T0) = some e' := y1
    have er : rdR tx n = prR tx n 61 1 Q0 := if_pos e
    refine ⟨T1, ?_, agD_tr t2 y2, ?_⟩
    · rw [y1, Option.bind_some]
      rcases y3 with ⟨z1, rfl, z2⟩ | ⟨p, z1, z2, rfl⟩
      · unfold rdA
        rw [er, z1]
      · unfold rdA
        rw [er, z1]
    · rcases y3 with ⟨z1, z0, z2, z3⟩ | ⟨p, z1, z2, z0⟩
      · left
        refine ⟨er.trans z1, ?_, z2, z3⟩
        unfold rdA
        rw [er, z1]
      · right
        refine ⟨p, er.trans z1, z2, ?_⟩
        unfold rdA
        rw [er, z1]
  · have er : rdR tx n = some 0 := if_neg e
    have ea : rdA tx n = nI 0 := by
      unfold rdA
      rw [er]
    have eb : ¬ btv tx n 0 = 69 := by
      unfold btv
      by_cases z : 0 < n
      · rw [if_pos z]
        exact nI_ne (b := 69) (fun q => e ⟨z, q⟩) (by omega) (by omega)
      · rw [if_neg z]
        decide
    rw [if_neg eb, ea]
    exact ⟨T0, rfl, t2, .inr ⟨0, er, by omega, rfl⟩⟩
theorem s147 {S : ov_S} {n : Nat} {tx : Nat → Nat} (ht : ∀ j, j < 60 → tx j < 256) (hn : n ≤ 60) (hx : txt2 S tx n) : ∃ T, f147 S = some (rdA tx n, T) ∧ sm_S S T ∧ (rdR tx n = none → rd2 T (rdQ tx n)) := by
  have st : ∃ U, ov_up (ov_up (ov_up (ov_up (ov_up S 42 3 (0 : Int32)) 42 13 (0 : Int32)) 42 15 (0 : Int32)) 42 17 (0 : Int32)) 42 20 (0 : Int32) = U ∧ sm_S S U ∧ rd2 U Q0 := by
    refine ⟨_, rfl, sm_tr (sm_up rfl) (sm_tr (sm_up rfl) (sm_tr (sm_up rfl) (sm_tr (sm_up rfl) (sm_up rfl)))), ⟨?_, ?_, ?_, ?_⟩, fun d h => absurd h (Nat.not_lt_zero d), fun d h => absurd h (Nat.not_lt_zero d), fun d h => absurd h (Nat.not_lt_zero d), fun d h => absurd h (Nat.not_lt_zero d)⟩
    · rw [up_n2 (by decide), up_n2 (by decide), up_n2 (by decide), up_eq]
      rfl
    · rw [up_n2 (by decide), up_n2 (by decide), up_eq]
      rfl
    · rw [up_n2 (by decide), up_eq]
      rfl
    · rw [up_eq]
      rfl
  obtain ⟨U, u1, u2, u3⟩ := st
  have xU := txt2_sm hx u2
  unfold f147
  rw [u1, xU.1]
  by_cases n0 : n = 0
  · have er : rdR tx n = some 0 := if_neg (fun q => by omega)
    have ea : rdA tx n = nI 0 := by
      unfold rdA
      rw [er]
    rw [if_pos (by rw [n0]; rfl), ea]
    exact ⟨U, rfl, u2, fun q => by rw [er] at q; cases q⟩
  · have t0 := ht 0 (by omega)
    have e43 : U 43 ((0 : Int32)).toNatClampNeg = nI (tx 0) := xU.2 0 (by omega)
    rw [if_neg (fun q => n0 ((nI_z (by omega)).mp q)), e43]
    by_cases e : tx 0 = 69
    · have er : rdR tx n = prR tx n 61 1 Q0 := if_pos ⟨by omega, e⟩
      rw [if_pos (show nI (tx 0) = (69 : Int32) by rw [e]; rfl)]
      have s1 : sm_S U (ov_up U 42 3 1) := sm_up rfl
      obtain ⟨e', T1, y1, y2, y3⟩ := rl2 ht hn 61 1 2000 (ov_up U 42 3 1) Q0 (by omega) (by omega) (by omega) (by rw [up_eq]; rfl) Q0_ok (rd2_p u3) (txt2_sm xU s1)
      refine ⟨T1, ?_, sm_tr u2 (sm_tr s1 y2), ?_⟩
      · rw [y1, Option.bind_some]
        rcases y3 with ⟨z1, rfl, z2⟩ | ⟨p, z1, rfl⟩
        · unfold rdA
          rw [er, z1]
        · unfold rdA
          rw [er, z1]
      · intro q
        rcases y3 with ⟨z1, z0, z2⟩ | ⟨p, z1, z0⟩
        · exact z2
        · rw [er, z1] at q
          cases q
    · have er : rdR tx n = some 0 := if_neg (fun q => e q.2)
      have ea : rdA tx n = nI 0 := by
        unfold rdA
        rw [er]
      rw [if_neg (show ¬ nI (tx 0) = (69 : Int32) from nI_ne (b := 69) e (by omega) (by omega)), ea]
      exact ⟨U, rfl, u2, fun q => by rw [er] at q; cases q⟩
theorem agD_sm {T T' : ov_S} (h : agD 11 T T') : sm_S T T' := fun i j q => by
  by_cases z : i < 11 ∨ 11 + 6 < i
  · rw [h i z]
  · exfalso
    have : sc_R i j = true := by
      unfold sc_R
      have : decide (11 ≤ i) = true ∧ decide (i ≤ 17) = true := ⟨decide_eq_true (by omega), decide_eq_true (by omega)⟩
      rw [this.1, this.2]
      rfl
    rw [this] at q
    cases q
section
variable {S : ov_S} {G : ov_L2} {P : pl_T}
theorem txt_of (h : in_txt S) : ∃ tx n, (∀ j, j < 60 → tx j < 256) ∧ n ≤ 60 ∧ txt1 S tx n ∧ txt2 S tx n := by
  obtain ⟨e1, ⟨n, n1, n2⟩, e3⟩ := h
  refine ⟨fun j => (S 43 j).toNatClampNeg, n, fun j hj => ?_, n1, ⟨e1.trans n2, fun j hj => ?_⟩, ⟨n2, fun j hj => ?_⟩⟩
  · obtain ⟨f1, b, b1, b2⟩ := e3 j hj
    show (S 43 j).toNatClampNeg < 256
    rw [b2, nI_clamp (by omega)]
    exact b1
  · obtain ⟨f1, b, b1, b2⟩ := e3 j hj
    show S 3 j = nI (S 43 j).toNatClampNeg
    rw [f1, b2, nI_clamp (by omega)]
  · obtain ⟨f1, b, b1, b2⟩ := e3 j hj
    show S 43 j = nI (S 43 j).toNatClampNeg
    rw [b2, nI_clamp (by omega)]
theorem c_fault (h : in_P S G P) : ok2 S G (f17 S) (fun T => f146 T) := by
  obtain ⟨tx, n, ht, hn, x1, x2⟩ := txt_of h.1
  obtain ⟨T, t1, t2, t3⟩ := s18 (a := 11) (by omega) ht hn x1
  have s1 := agD_sm t2
  have s2 := sm_tr s1 (sm0 (S := T))
  obtain ⟨T', u1, u2, u3⟩ := s147 (S := ov_up T 42 0 0) ht hn (txt2_sm x2 s2)
  refine o2 h s1 (sm_tr sm0 u2) (rdA tx n) ?_ ?_
  · unfold f17
    rw [t1]
    rfl
  · show f146 T = _
    unfold f146
    rw [u1]
    rfl
-- setting up
theorem s6 {T : ov_S} {Q : pl_T} (h : rd1 4 T Q) (ok : Qok Q) {f : Nat} (hf : f < 4) : f6 4 T (nI f) = some (if f < pF Q then nI (st Q f) else -9) := by
  have h4 := ok.1.2.1
  unfold f6 f7
  by_cases q : f < pF Q
  · rw [gd_in h.1.2.1 q (by omega), Option.bind_some, if_neg (by decide), ov_ck_t (ib_nI hf (by omega)), nI_clamp (by omega), h.2.2.1 f q, if_pos q]
  · rw [gd_out h.1.2.1 (.inr (le_nI (by omega) (by omega))), Option.bind_some, if_pos rfl, if_neg q]
theorem s5 {T : ov_S} {Q : pl_T} (h : rd1 4 T Q) (ok : Qok Q) : ∃ U, f5 18 T = some U ∧ ag [18, 19, 20] T U ∧ (∀ k, k < 6 → U 19 k = -9) ∧ (∀ f, f < 4 → U 20 f = if f < pF Q then nI (st Q f) else -9) ∧ U 18 3 = 0 ∧ U 18 4 = 0 := by
  have L1 : ∃ U, ov_lp (fun s => b5_2 18 s.1 s.2) 2000 ((0 : Int32), T) = some U ∧ (ag [19] T U ∧ ∀ k, k < 6 → U 19 k = -9) := by
    refine lp_inv (fun (k : Nat) (s : Int32 × ov_S) => s.1 = nI k ∧ ag [19] T s.2 ∧ ∀ j, j < k → s.2 19 j = -9) (fun (U : ov_S) => ag [19] T U ∧ ∀ k, k < 6 → U 19 k = -9) 6 ?_ ?_ 0 _ (by omega) ⟨rfl, ag_rf, fun j h => absurd h (Nat.not_lt_zero _)⟩ (by omega)
    · rintro k ⟨x, R⟩ hk ⟨rfl, h2, h3⟩
      replace h2 : ag [19] T R := h2
      refine ⟨(nI k + 1, ov_up R 19 k (-9)), ?_, nI_1 k, ag_tr h2 (ag_up (by decide)), fun j hj => ?_⟩
      · show b5_2 18 (nI k) R = _
        unfold b5_2
        rw [if_neg (show ¬ (6 : Int32) ≤ nI k from nle_nI (a := 6) hk (by omega)), ov_ck_t (ib_nI hk (by omega)), nI_clamp (by omega)]
      · show ov_up R 19 k (-9) 19 j = -9
        by_cases z : j = k
        · rw [z, up_eq]
        · rw [up_n2 z]
          exact h3 j (by omega)
    · rintro ⟨x, R⟩ ⟨rfl, h2⟩
      refine ⟨R, ?_, h2⟩
      show b5_2 18 (nI 6) R = _
      unfold b5_2
      rw [if_pos (show (6 : Int32) ≤ nI 6 from le_nI (a := 6) (Nat.le_refl _) (by omega))]
  obtain ⟨U1, u1, u2, u3⟩ := L1
  have h1 : rd1 4 U1 Q := by
    obtain ⟨⟨h0, h1, h2, h3⟩, h4, h5, h6, h7, h8, h9⟩ := h
    unfold rd1
    rw [u2 4 (by decide), u2 (4 + 1) (by decide), u2 (4 + 2) (by decide), u2 (4 + 3) (by decide), u2 (4 + 4) (by decide), u2 (4 + 5) (by decide), u2 (4 + 6) (by decide)]
    exact ⟨⟨h0, h1, h2, h3⟩, h4, h5, h6, h7, h8, h9⟩
  have L2 : ∃ U, ov_lp (fun s => b5_24 18 s.1 s.2) 2000 ((0 : Int32), U1) = some U ∧ (ag [20] U1 U ∧ ∀ f, f < 4 → U 20 f = if f < pF Q then nI (st Q f) else -9) := by
    refine lp_inv (fun (k : Nat) (s : Int32 × ov_S) => s.1 = nI k ∧ ag [20] U1 s.2 ∧ ∀ j, j < k → s.2 20 j = if j < pF Q then nI (st Q j) else -9) (fun (U : ov_S) => ag [20] U1 U ∧ ∀ f, f < 4 → U 20 f = if f < pF Q then nI (st Q f) else -9) 4 ?_ ?_ 0 _ (by omega) ⟨rfl, ag_rf, fun j h => absurd h (Nat.not_lt_zero _)⟩ (by omega)
    · rintro k ⟨x, R⟩ hk ⟨rfl, h2, h3⟩
      replace h2 : ag [20] U1 R := h2
      have hR : rd1 4 R Q := by
        obtain ⟨⟨h0, h1, h2', h3⟩, h4, h5, h6, h7, h8, h9⟩ := h1
        unfold rd1
        rw [h2 4 (by decide), h2 (4 + 1) (by decide), h2 (4 + 2) (by decide), h2 (4 + 3) (by decide), h2 (4 + 4) (by decide), h2 (4 + 5) (by decide), h2 (4 + 6) (by decide)]
        exact ⟨⟨h0, h1, h2', h3⟩, h4, h5, h6, h7, h8, h9⟩
      refine ⟨(nI k + 1, ov_up R 20 k (if k < pF Q then nI (st Q k) else -9)), ?_, nI_1 k, ag_tr h2 (ag_up (by decide)), fun j hj => ?_⟩
      · show b5_24 18 (nI k) R = _
        unfold b5_24
        rw [if_neg (show ¬ (4 : Int32) ≤ nI k from nle_nI (a := 4) hk (by omega)), s6 hR ok hk, Option.bind_some, ov_ck_t (ib_nI hk (by omega)), nI_clamp (by omega)]
      · show ov_up R 20 k _ 20 j = _
        by_cases z : j = k
        · rw [z, up_eq]
        · rw [up_n2 z]
          exact h3 j (by omega)
    · rintro ⟨x, R⟩ ⟨rfl, h2⟩
      refine ⟨R, ?_, h2⟩
      show b5_24 18 (nI 4) R = _
      unfold b5_24
      rw [if_pos (show (4 : Int32) ≤ nI 4 from le_nI (a := 4) (Nat.le_refl _) (by omega))]
  obtain ⟨U2, v1, v2, v3⟩ := L2
  refine ⟨ov_up (ov_up U2 18 3 0) 18 4 0, ?_, ag_tr (ag_mo u2 (by decide)) (ag_tr (ag_mo v2 (by decide)) (ag_tr (ag_up (by decide)) (ag_up (by decide)))), fun k hk => ?_, fun f hf => ?_, ?_, up_eq⟩
  · unfold f5
    rw [u1, Option.bind_some, v1]
    rfl
  · rw [up_n1 (by decide), up_n1 (by decide), v2 19 (by decide)]
    exact u3 k hk
  · rw [up_n1 (by decide), up_n1 (by decide)]
    exact v3 f hf
  · rw [up_n2 (by decide), up_eq]
-- the reference's setting up
theorem page1 (T : ov_S) : ∃ U, ov_lp (fun s => b157_115 s.1 s.2) 2000 ((0 : Int32), T) = some U ∧ (ag [55] T U ∧ ∀ k, k < 12 → U 55 k = if k < 6 then -9 else 0) := by
  refine lp_inv (fun (k : Nat) (s : Int32 × ov_S) => s.1 = nI k ∧ ag [55] T s.2 ∧ ∀ j, j < k → s.2 55 j = if j < 6 then -9 else 0) (fun (U : ov_S) => ag [55] T U ∧ ∀ k, k < 12 → U 55 k = if k < 6 then -9 else 0) 12 ?_ ?_ 0 _ (by omega) ⟨rfl, ag_rf, fun j h => absurd h (Nat.not_lt_zero _)⟩ (by omega)
  · rintro k ⟨x, R⟩ hk ⟨rfl, h2, h3⟩
    replace h2 : ag [55] T R := h2
    refine ⟨(nI k + 1, ov_up R 55 k (if k < 6 then -9 else 0)), ?_, nI_1 k, ag_tr h2 (ag_up (by decide)), fun j hj => ?_⟩
    · show b157_115 (nI k) R = _
      unfold b157_115 f157_138_115
      rw [if_neg (show ¬ (12 : Int32) ≤ nI k from nle_nI (a := 12) hk (by omega)), ov_ck_t (ib_nI hk (by omega)), ov_ck_t (ib_nI hk (by omega)), nI_clamp (by omega)]
      by_cases q : k < 6
      · rw [if_neg (show ¬ (6 : Int32) ≤ nI k from nle_nI (a := 6) q (by omega)), if_pos q]
      · rw [if_pos (show (6 : Int32) ≤ nI k from le_nI (a := 6) (by omega) (by omega)), if_neg q]
    · show ov_up R 55 k _ 55 j = _
      by_cases z : j = k
      · rw [z, up_eq]
      · rw [up_n2 z]
        exact h3 j (by omega)
  · rintro ⟨x, R⟩ ⟨rfl, h2⟩
    refine ⟨R, ?_, h2⟩
    show b157_115 (nI 12) R = _
    unfold b157_115
    rw [if_pos (show (12 : Int32) ≤ nI 12 from le_nI (a := 12) (Nat.le_refl _) (by omega))]
theorem page2 {T : ov_S} {F : Nat} (h4 : F ≤ 4) (e6 : T 42 6 = nI F) : ∃ U, ov_lp (fun s => b157_147 s.1 s.2) 2000 ((0 : Int32), T) = some U ∧ (ag [55] T U ∧ (∀ k, k < 7 → U 55 k = T 55 k) ∧ (∀ f, f < F → U 55 (7 + f) = T 50 f) ∧ U 55 11 = T 55 11) := by
  refine lp_inv (fun (k : Nat) (s : Int32 × ov_S) => s.1 = nI k ∧ ag [55] T s.2 ∧ (∀ j, j < 7 → s.2 55 j = T 55 j) ∧ (∀ f, f < k → s.2 55 (7 + f) = T 50 f) ∧ s.2 55 11 = T 55 11) (fun (U : ov_S) => ag [55] T U ∧ (∀ k, k < 7 → U 55 k = T 55 k) ∧ (∀ f, f < F → U 55 (7 + f) = T 50 f) ∧ U 55 11 = T 55 11) F ?_ ?_ 0 _ (by omega) ⟨rfl, ag_rf, fun _ _ => rfl, fun j h => absurd h (Nat.not_lt_zero _), rfl⟩ (by omega)
  · rintro k ⟨x, R⟩ hk ⟨rfl, h2, h3, h5, h6⟩
    replace h2 : ag [55] T R := h2
    refine ⟨(nI k + 1, ov_up R 55 (7 + k) (T 50 k)), ?_, nI_1 k, ag_tr h2 (ag_up (by decide)), fun j hj => ?_, fun j hj => ?_, ?_⟩
    · show b157_147 (nI k) R = _
      unfold b157_147
      rw [h2 42 (by decide), e6, if_neg (nle_nI hk (by omega)), ov_ck_t (ib_nI (by omega) (by omega)), show (7 : Int32) = nI 7 from rfl, nI_add, ov_ck_t (ib_nI (by omega) (by omega)), nI_clamp (by omega), nI_clamp (by omega), h2 50 (by decide)]
    · show ov_up R 55 (7 + k) _ 55 j = _
      rw [up_n2 (by omega)]
      exact h3 j hj
    · show ov_up R 55 (7 + k) _ 55 (7 + j) = _
      by_cases z : j = k
      · rw [z, up_eq]
      · rw [up_n2 (by omega)]
        exact h5 j (by omega)
    · show ov_up R 55 (7 + k) _ 55 11 = _
      rw [up_n2 (by omega)]
      exact h6
  · rintro ⟨x, R⟩ ⟨rfl, h2⟩
    replace h2 : ag [55] T R ∧ _ := h2
    refine ⟨R, ?_, h2⟩
    show b157_147 (nI F) R = _
    unfold b157_147
    rw [h2.1 42 (by decide), e6, if_pos (le_nI (Nat.le_refl _) (by omega))]
/-- four numbers and five rows -/
theorem s157c {T : ov_S} {Q : pl_T} (h : rd2 T Q) (ok : Qok Q) : ∃ U1 U2 U3 U4 U, (f158 49 44 (ov_up (ov_up (ov_up (ov_up T 42 4 (nI (pD Q))) 42 6 (nI (pF Q))) 42 7 (nI (pN Q))) 42 10 (nI (pL Q))) (3 : Int32) = some U1 ∧ f158 51 45 U1 (6 : Int32) = some U2 ∧ f158 52 46 U2 (6 : Int32) = some U3 ∧ f158 53 47 U3 (6 : Int32) = some U4 ∧ f158 54 48 U4 (6 : Int32) = some U) ∧ ag [42, 44, 45, 46, 47, 48] T U ∧ (∀ j, j ≠ 4 → j ≠ 6 → j ≠ 7 → j ≠ 10 → U 42 j = T 42 j) ∧ (U 42 4 = nI (pD Q) ∧ U 42 6 = nI (pF Q) ∧ U 42 7 = nI (pN Q) ∧ U 42 10 = nI (pL Q)) ∧ (∀ d, d < pD Q → U 44 d = nI (dr Q d)) ∧ (∀ k, k < pN Q → U 45 k = nI (wt Q k) ∧ U 46 k = nI (kd Q k)) ∧ (∀ l, l < pL Q → U 47 l = nI (sy Q l) ∧ U 48 l = nI (hr Q l)) := by
  obtain ⟨⟨q1, q2, q3, q4⟩, q5⟩ := ok
  have z0 : ag [42] T (ov_up (ov_up (ov_up (ov_up T 42 4 (nI (pD Q))) 42 6 (nI (pF Q))) 42 7 (nI (pN Q))) 42 10 (nI (pL Q))) := ag_tr (ag_up (by decide)) (ag_tr (ag_up (by decide)) (ag_tr (ag_up (by decide)) (ag_up (by decide))))
  have z1 : ∀ j, j ≠ 4 → j ≠ 6 → j ≠ 7 → j ≠ 10 → (ov_up (ov_up (ov_up (ov_up T 42 4 (nI (pD Q))) 42 6 (nI (pF Q))) 42 7 (nI (pN Q))) 42 10 (nI (pL Q))) 42 j = T 42 j := fun j a b c d => by rw [up_n2 d, up_n2 c, up_n2 b, up_n2 a]
  have z2 : (ov_up (ov_up (ov_up (ov_up T 42 4 (nI (pD Q))) 42 6 (nI (pF Q))) 42 7 (nI (pN Q))) 42 10 (nI (pL Q))) 42 4 = nI (pD Q) ∧ (ov_up (ov_up (ov_up (ov_up T 42 4 (nI (pD Q))) 42 6 (nI (pF Q))) 42 7 (nI (pN Q))) 42 10 (nI (pL Q))) 42 6 = nI (pF Q) ∧ (ov_up (ov_up (ov_up (ov_up T 42 4 (nI (pD Q))) 42 6 (nI (pF Q))) 42 7 (nI (pN Q))) 42 10 (nI (pL Q))) 42 7 = nI (pN Q) ∧ (ov_up (ov_up (ov_up (ov_up T 42 4 (nI (pD Q))) 42 6 (nI (pF Q))) 42 7 (nI (pN Q))) 42 10 (nI (pL Q))) 42 10 = nI (pL Q) := by
    refine ⟨?_, ?_, ?_, up_eq⟩
    · rw [up_n2 (by decide), up_n2 (by decide), up_n2 (by decide), up_eq]
    · rw [up_n2 (by decide), up_n2 (by decide), up_eq]
    · rw [up_n2 (by decide), up_eq]
  generalize ov_up (ov_up (ov_up (ov_up T 42 4 (nI (pD Q))) 42 6 (nI (pF Q))) 42 7 (nI (pN Q))) 42 10 (nI (pL Q)) = U0 at z0 z1 z2
  obtain ⟨U1, a1, a2, a3, _⟩ := s158 (S := U0) (p0 := 49) (p1 := 44) (n := 3) (by decide) (by decide) (by decide) (by decide) (by decide) (by decide)
  obtain ⟨U2, b1, b2, b3, _⟩ := s158 (S := U1) (p0 := 51) (p1 := 45) (n := 6) (by decide) (by decide) (by decide) (by decide) (by decide) (by decide)
  obtain ⟨U3, c1, c2, c3, _⟩ := s158 (S := U2) (p0 := 52) (p1 := 46) (n := 6) (by decide) (by decide) (by decide) (by decide) (by decide) (by decide)
  obtain ⟨U4, d1, d2, d3, _⟩ := s158 (S := U3) (p0 := 53) (p1 := 47) (n := 6) (by decide) (by decide) (by decide) (by decide) (by decide) (by decide)
  obtain ⟨U5, e1, e2, e3, _⟩ := s158 (S := U4) (p0 := 54) (p1 := 48) (n := 6) (by decide) (by decide) (by decide) (by decide) (by decide) (by decide)
  replace a1 : f158 49 44 U0 (3 : Int32) = some U1 := a1
  replace b1 : f158 51 45 U1 (6 : Int32) = some U2 := b1
  replace c1 : f158 52 46 U2 (6 : Int32) = some U3 := c1
  replace d1 : f158 53 47 U3 (6 : Int32) = some U4 := d1
  replace e1 : f158 54 48 U4 (6 : Int32) = some U5 := e1
  have e42 : U5 42 = U0 42 := by rw [e2 42 (by decide), d2 42 (by decide), c2 42 (by decide), b2 42 (by decide), a2 42 (by decide)]
  refine ⟨U1, U2, U3, U4, U5, ⟨a1, b1, c1, d1, e1⟩, ag_tr (ag_mo z0 (by decide)) (ag_tr (ag_mo a2 (by decide)) (ag_tr (ag_mo b2 (by decide)) (ag_tr (ag_mo c2 (by decide)) (ag_tr (ag_mo d2 (by decide)) (ag_mo e2 (by decide)))))), fun j j1 j2 j3 j4 => by rw [e42]; exact z1 j j1 j2 j3 j4, by rw [e42]; exact z2, fun d hd => ?_, fun k hk => ⟨?_, ?_⟩, fun l hl => ⟨?_, ?_⟩⟩
  · rw [e2 44 (by decide), d2 44 (by decide), c2 44 (by decide), b2 44 (by decide), a3 d (by omega), z0 49 (by decide)]
    exact h.2.1 d hd
  · rw [e2 45 (by decide), d2 45 (by decide), c2 45 (by decide), b3 k (by omega), a2 51 (by decide), z0 51 (by decide)]
    exact (h.2.2.2.1 k hk).1
  · rw [e2 46 (by decide), d2 46 (by decide), c3 k (by omega), b2 52 (by decide), a2 52 (by decide), z0 52 (by decide)]
    exact (h.2.2.2.1 k hk).2
  · rw [e2 47 (by decide), d3 l (by omega), c2 53 (by decide), b2 53 (by decide), a2 53 (by decide), z0 53 (by decide)]
    exact (h.2.2.2.2 l hl).1
  · rw [e3 l (by omega), d2 54 (by decide), c2 54 (by decide), b2 54 (by decide), a2 54 (by decide), z0 54 (by decide)]
    exact (h.2.2.2.2 l hl).2
end
