-- THE LAW: call after call
def nxt (L : Nat) (S : ov_S) (x3 : Int32) (b : Option ((Int32 × ov_S × ov_L2) ⊕ ((ov_S × ov_L2) ⊕ (Int32 × ov_S × ov_L2)))) : Prop := ∃ S2 G2, b = some (.inl (x3 + (4 : Int32), S2, G2)) ∧ in_I S2 G2 ∧ S2 0 = S 0
theorem n111 {L : Nat} {S : ov_S} {G : ov_L2} {x3 : Int32} : f0_1111_18 L S G x3 = some (.inl (x3 + (4 : Int32), S, G)) := rfl
theorem fin2 {L : Nat} {S : ov_S} {G : ov_L2} {x3 : Int32} {c : Option (Int32 × ov_S)} {m : ov_S → Option (Int32 × ov_S)} (h : ok2 S G c m) (K : Int32 × ov_S → Option ((Int32 × ov_S × ov_L2) ⊕ ((ov_S × ov_L2) ⊕ (Int32 × ov_S × ov_L2)))) (hK : ∀ r S1, S1 0 = S 0 → K (r, S1) = (m S1).bind fun y => (if r = y.1 then f0_1111_18 L y.2 G x3 else some (.inr (.inr ((0 : Int32), y.2, G))))) : nxt L S x3 (c.bind K) := by
  obtain ⟨r, S1, S2, hc, hm, hi, h1, h2⟩ := h
  rw [hc, Option.bind_some, hK r S1 h1, hm, Option.bind_some]
  dsimp only
  rw [if_pos rfl]
  exact ⟨S2, G, rfl, hi, h2⟩
theorem fin1 {L : Nat} {S : ov_S} {G : ov_L2} {x3 : Int32} {c : Option Int32} {m : Option (Int32 × ov_S)} (h : ok1 S G c m) (K : Int32 → Option ((Int32 × ov_S × ov_L2) ⊕ ((ov_S × ov_L2) ⊕ (Int32 × ov_S × ov_L2)))) (hK : ∀ r, K r = m.bind fun y => (if r = y.1 then f0_1111_18 L y.2 G x3 else some (.inr (.inr ((0 : Int32), y.2, G))))) : nxt L S x3 (c.bind K) := by
  obtain ⟨r, S2, hc, hm, hi, h2⟩ := h
  rw [hc, Option.bind_some, hK r, hm, Option.bind_some]
  dsimp only
  rw [if_pos rfl]
  exact ⟨S2, G, rfl, hi, h2⟩
theorem b31 (x : Int32) : ∃ k, k < 32 ∧ x &&& (31 : Int32) = nI k := by
  obtain ⟨j, h1, h2⟩ := pk_andE x (m := 31) 5 (by decide)
  exact ⟨j, h1, h2⟩
set_option maxHeartbeats 4000000 in
theorem law_b {L : Nat} {S : ov_S} {G : ov_L2} (hI : in_I S G) (hL : L ≤ 256) {p : Nat} (hp : p + 4 ≤ L) : nxt L S (nI p) (b0_18 L (nI p) S G) := by
  obtain ⟨P, h⟩ := hI
  have k0 : ∀ (α : Type) (x : Option α), ov_ck (ov_ibb (nI p) L) x = x := fun _ _ => ov_ck_t (ib_nI (by omega) (by omega))
  have k1 : ∀ (α : Type) (x : Option α), ov_ck (ov_ibb (nI p + (1 : Int32)) L) x = x := fun _ _ => ov_ck_t (by rw [show (1 : Int32) = nI 1 from rfl, nI_add]; exact ib_nI (by omega) (by omega))
  have k2 : ∀ (α : Type) (x : Option α), ov_ck (ov_ibb (nI p + (2 : Int32)) L) x = x := fun _ _ => ov_ck_t (by rw [show (2 : Int32) = nI 2 from rfl, nI_add]; exact ib_nI (by omega) (by omega))
  have k3 : ∀ (α : Type) (x : Option α), ov_ck (ov_ibb (nI p + (3 : Int32)) L) x = x := fun _ _ => ov_ck_t (by rw [show (3 : Int32) = nI 3 from rfl, nI_add]; exact ib_nI (by omega) (by omega))
  have go : ¬ (Int32.ofNat L - (4 : Int32)) < nI p := by
    rw [show Int32.ofNat L = nI L from rfl, show (4 : Int32) = nI 4 from rfl, pk_sub (by omega)]
    exact nlt_nI (by omega) (by omega)
  obtain ⟨k, hk, ek⟩ := b31 (S 0 (nI p).toNatClampNeg)
  unfold b0_18
  rw [if_neg go, k0, ek]
  simp only [k1, k2, k3]
  have kk := fun x => k1 ((Int32 × ov_S × ov_L2) ⊕ ((ov_S × ov_L2) ⊕ (Int32 × ov_S × ov_L2))) x
  have kk2 := fun x => k2 ((Int32 × ov_S × ov_L2) ⊕ ((ov_S × ov_L2) ⊕ (Int32 × ov_S × ov_L2))) x
  have kk3 := fun x => k3 ((Int32 × ov_S × ov_L2) ⊕ ((ov_S × ov_L2) ⊕ (Int32 × ov_S × ov_L2))) x
  clear ek go k0 k1 k2 k3
  generalize nI p = x3 at kk kk2 kk3 ⊢
  by_cases c0 : k = 0
  · rw [if_pos (show nI k = (0 : Int32) by rw [c0]; rfl)]
    exact fin2 (c_write h (S 0 (x3 + (1 : Int32)).toNatClampNeg)) _ (fun r S1 e => by dsimp only; rw [e])
  rw [if_neg (show ¬ nI k = (0 : Int32) from nI_ne (b := 0) c0 (by omega) (by omega))]
  by_cases c1 : k = 1
  · rw [if_pos (show nI k = (1 : Int32) by rw [c1]; rfl)]
    exact fin2 (c_wipe h) _ (fun r S1 e => rfl)
  rw [if_neg (show ¬ nI k = (1 : Int32) from nI_ne (b := 1) c1 (by omega) (by omega))]
  by_cases c2 : k = 2
  · rw [if_pos (show nI k = (2 : Int32) by rw [c2]; rfl)]
    exact fin2 (c_fault h) _ (fun r S1 e => rfl)
  rw [if_neg (show ¬ nI k = (2 : Int32) from nI_ne (b := 2) c2 (by omega) (by omega))]
  by_cases c3 : k = 3
  · rw [if_pos (show nI k = (3 : Int32) by rw [c3]; rfl)]
    exact fin2 (c_play h) _ (fun r S1 e => rfl)
  rw [if_neg (show ¬ nI k = (3 : Int32) from nI_ne (b := 3) c3 (by omega) (by omega))]
  by_cases c4 : k = 4
  · rw [if_pos (show nI k = (4 : Int32) by rw [c4]; rfl)]
    exact fin1 (c_about h (S 0 (x3 + (1 : Int32)).toNatClampNeg)) _ (fun r => rfl)
  rw [if_neg (show ¬ nI k = (4 : Int32) from nI_ne (b := 4) c4 (by omega) (by omega))]
  by_cases c5 : k = 5
  · rw [if_pos (show nI k = (5 : Int32) by rw [c5]; rfl)]
    exact fin1 (c_door h (S 0 (x3 + (1 : Int32)).toNatClampNeg)) _ (fun r => rfl)
  rw [if_neg (show ¬ nI k = (5 : Int32) from nI_ne (b := 5) c5 (by omega) (by omega))]
  by_cases c6 : k = 6
  · rw [if_pos (show nI k = (6 : Int32) by rw [c6]; rfl)]
    exact fin1 (c_stool h (S 0 (x3 + (1 : Int32)).toNatClampNeg)) _ (fun r => rfl)
  rw [if_neg (show ¬ nI k = (6 : Int32) from nI_ne (b := 6) c6 (by omega) (by omega))]
  by_cases c7 : k = 7
  · rw [if_pos (show nI k = (7 : Int32) by rw [c7]; rfl)]
    exact fin1 (c_part h (S 0 (x3 + (1 : Int32)).toNatClampNeg) (S 0 (x3 + (2 : Int32)).toNatClampNeg)) _ (fun r => rfl)
  rw [if_neg (show ¬ nI k = (7 : Int32) from nI_ne (b := 7) c7 (by omega) (by omega))]
  by_cases c8 : k = 8
  · rw [if_pos (show nI k = (8 : Int32) by rw [c8]; rfl)]
    exact fin1 (c_line h (S 0 (x3 + (1 : Int32)).toNatClampNeg) (S 0 (x3 + (2 : Int32)).toNatClampNeg)) _ (fun r => rfl)
  rw [if_neg (show ¬ nI k = (8 : Int32) from nI_ne (b := 8) c8 (by omega) (by omega))]
  by_cases c9 : k = 9
  · rw [if_pos (show nI k = (9 : Int32) by rw [c9]; rfl)]
    exact fin1 (c_load h (S 0 (x3 + (1 : Int32)).toNatClampNeg)) _ (fun r => rfl)
  rw [if_neg (show ¬ nI k = (9 : Int32) from nI_ne (b := 9) c9 (by omega) (by omega))]
  by_cases c10 : k = 10
  · rw [if_pos (show nI k = (10 : Int32) by rw [c10]; rfl)]
    exact fin2 (c_enter h (S 0 (x3 + (1 : Int32)).toNatClampNeg) (S 0 (x3 + (2 : Int32)).toNatClampNeg)) _ (fun r S1 e => by dsimp only; rw [e])
  rw [if_neg (show ¬ nI k = (10 : Int32) from nI_ne (b := 10) c10 (by omega) (by omega))]
  by_cases c11 : k = 11
  · rw [if_pos (show nI k = (11 : Int32) by rw [c11]; rfl)]
    exact fin2 (c_walk h (S 0 (x3 + (1 : Int32)).toNatClampNeg) (S 0 (x3 + (2 : Int32)).toNatClampNeg)) _ (fun r S1 e => by dsimp only; rw [e])
  rw [if_neg (show ¬ nI k = (11 : Int32) from nI_ne (b := 11) c11 (by omega) (by omega))]
  by_cases c12 : k = 12
  · rw [if_pos (show nI k = (12 : Int32) by rw [c12]; rfl)]
    exact fin2 (c_say h (S 0 (x3 + (1 : Int32)).toNatClampNeg)) _ (fun r S1 e => by dsimp only; rw [e])
  rw [if_neg (show ¬ nI k = (12 : Int32) from nI_ne (b := 12) c12 (by omega) (by omega))]
  by_cases c13 : k = 13
  · rw [if_pos (show nI k = (13 : Int32) by rw [c13]; rfl)]
    exact fin2 (c_shift h (S 0 (x3 + (1 : Int32)).toNatClampNeg) (S 0 (x3 + (2 : Int32)).toNatClampNeg)) _ (fun r S1 e => by dsimp only; rw [e])
  rw [if_neg (show ¬ nI k = (13 : Int32) from nI_ne (b := 13) c13 (by omega) (by omega))]
  by_cases c14 : k = 14
  · rw [if_pos (show nI k = (14 : Int32) by rw [c14]; rfl)]
    exact fin2 (c_undo h) _ (fun r S1 e => rfl)
  rw [if_neg (show ¬ nI k = (14 : Int32) from nI_ne (b := 14) c14 (by omega) (by omega))]
  by_cases c15 : k = 15
  · rw [if_pos (show nI k = (15 : Int32) by rw [c15]; rfl)]
    exact fin1 (c_way h (S 0 (x3 + (1 : Int32)).toNatClampNeg) (S 0 (x3 + (2 : Int32)).toNatClampNeg)) _ (fun r => rfl)
  rw [if_neg (show ¬ nI k = (15 : Int32) from nI_ne (b := 15) c15 (by omega) (by omega))]
  by_cases c16 : k = 16
  · rw [if_pos (show nI k = (16 : Int32) by rw [c16]; rfl)]
    exact fin2 (c_place h (S 0 (x3 + (1 : Int32)).toNatClampNeg) (S 0 (x3 + (2 : Int32)).toNatClampNeg)) _ (fun r S1 e => by dsimp only; rw [e])
  rw [if_neg (show ¬ nI k = (16 : Int32) from nI_ne (b := 16) c16 (by omega) (by omega))]
  by_cases c17 : k = 17
  · rw [if_pos (show nI k = (17 : Int32) by rw [c17]; rfl)]
    exact fin2 (c_comes h (S 0 (x3 + (1 : Int32)).toNatClampNeg) (S 0 (x3 + (2 : Int32)).toNatClampNeg)) _ (fun r S1 e => by dsimp only; rw [e])
  rw [if_neg (show ¬ nI k = (17 : Int32) from nI_ne (b := 17) c17 (by omega) (by omega))]
  by_cases c18 : k = 18
  · rw [if_pos (show nI k = (18 : Int32) by rw [c18]; rfl)]
    have go : ∀ s0 : Int32, ((S 0 (x3 + (1 : Int32)).toNatClampNeg) = 0 → s0 = 0) → (¬ (S 0 (x3 + (1 : Int32)).toNatClampNeg) = 0 → s0 = 1) → nxt L S x3 (f0_644_18 L S G x3 s0) := by
      intro s0 z0 z1
      unfold f0_644_18
      refine fin2 (c_order h s0) _ (fun r S1 e => ?_)
      show ov_ck _ _ = _
      rw [kk]
      dsimp only
      by_cases z : (S 0 (x3 + (1 : Int32)).toNatClampNeg) = 0
      · rw [if_pos (show S1 0 (x3 + (1 : Int32)).toNatClampNeg = 0 by rw [e]; exact z), z0 z]
        rfl
      · rw [if_neg (show ¬ S1 0 (x3 + (1 : Int32)).toNatClampNeg = 0 by rw [e]; exact z), z1 z]
        rfl
    by_cases z : (S 0 (x3 + (1 : Int32)).toNatClampNeg) = 0
    · rw [if_pos z]
      exact go 0 (fun _ => rfl) (fun q => absurd z q)
    · rw [if_neg z]
      exact go 1 (fun q => absurd q z) (fun _ => rfl)
  rw [if_neg (show ¬ nI k = (18 : Int32) from nI_ne (b := 18) c18 (by omega) (by omega))]
  by_cases c19 : k = 19
  · rw [if_pos (show nI k = (19 : Int32) by rw [c19]; rfl)]
    exact fin1 (c_bars h (S 0 (x3 + (1 : Int32)).toNatClampNeg)) _ (fun r => rfl)
  rw [if_neg (show ¬ nI k = (19 : Int32) from nI_ne (b := 19) c19 (by omega) (by omega))]
  by_cases c20 : k = 20
  · rw [if_pos (show nI k = (20 : Int32) by rw [c20]; rfl)]
    exact fin1 (c_leftOut h (S 0 (x3 + (1 : Int32)).toNatClampNeg)) _ (fun r => rfl)
  rw [if_neg (show ¬ nI k = (20 : Int32) from nI_ne (b := 20) c20 (by omega) (by omega))]
  by_cases c21 : k = 21
  · rw [if_pos (show nI k = (21 : Int32) by rw [c21]; rfl)]
    exact fin2 (c_judge h (S 0 (x3 + (1 : Int32)).toNatClampNeg) _) _ (fun r S1 e => by dsimp only; rw [e])
  rw [if_neg (show ¬ nI k = (21 : Int32) from nI_ne (b := 21) c21 (by omega) (by omega))]
  by_cases c22 : k = 22
  · rw [if_pos (show nI k = (22 : Int32) by rw [c22]; rfl)]
    have go : ∀ s0 : Int32, ((S 0 (x3 + (2 : Int32)).toNatClampNeg) = 0 → s0 = 0) → (¬ (S 0 (x3 + (2 : Int32)).toNatClampNeg) = 0 → s0 = 1) → nxt L S x3 (f0_797_18 L S G x3 s0 (S 0 (x3 + (1 : Int32)).toNatClampNeg)) := by
      intro s0 z0 z1
      unfold f0_797_18
      refine fin1 (c_share h (S 0 (x3 + (1 : Int32)).toNatClampNeg) s0) _ (fun r => ?_)
      show ov_ck _ (ov_ck _ _) = _
      rw [kk, kk2]
      by_cases z : (S 0 (x3 + (2 : Int32)).toNatClampNeg) = 0
      · rw [if_pos z, z0 z]
        rfl
      · rw [if_neg z, z1 z]
        rfl
    by_cases z : (S 0 (x3 + (2 : Int32)).toNatClampNeg) = 0
    · rw [if_pos z]
      exact go 0 (fun _ => rfl) (fun q => absurd z q)
    · rw [if_neg z]
      exact go 1 (fun q => absurd q z) (fun _ => rfl)
  rw [if_neg (show ¬ nI k = (22 : Int32) from nI_ne (b := 22) c22 (by omega) (by omega))]
  by_cases c23 : k = 23
  · rw [if_pos (show nI k = (23 : Int32) by rw [c23]; rfl)]
    exact fin2 (c_tread h (S 0 (x3 + (1 : Int32)).toNatClampNeg) (S 0 (x3 + (2 : Int32)).toNatClampNeg)) _ (fun r S1 e => by dsimp only; rw [e])
  rw [if_neg (show ¬ nI k = (23 : Int32) from nI_ne (b := 23) c23 (by omega) (by omega))]
  by_cases c24 : k = 24
  · rw [if_pos (show nI k = (24 : Int32) by rw [c24]; rfl)]
    exact fin2 (c_untread h) _ (fun r S1 e => rfl)
  rw [if_neg (show ¬ nI k = (24 : Int32) from nI_ne (b := 24) c24 (by omega) (by omega))]
  by_cases c25 : k = 25
  · rw [if_pos (show nI k = (25 : Int32) by rw [c25]; rfl)]
    exact fin1 (c_doors h) _ (fun r => rfl)
  rw [if_neg (show ¬ nI k = (25 : Int32) from nI_ne (b := 25) c25 (by omega) (by omega))]
  by_cases c26 : k = 26
  · rw [if_pos (show nI k = (26 : Int32) by rw [c26]; rfl)]
    exact fin2 (c_rests h (S 0 (x3 + (1 : Int32)).toNatClampNeg) (S 0 (x3 + (2 : Int32)).toNatClampNeg) (S 0 (x3 + (3 : Int32)).toNatClampNeg)) _ (fun r S1 e => by dsimp only; rw [e])
  rw [if_neg (show ¬ nI k = (26 : Int32) from nI_ne (b := 26) c26 (by omega) (by omega))]
  by_cases c27 : k = 27
  · rw [if_pos (show nI k = (27 : Int32) by rw [c27]; rfl)]
    have go : ∀ s0 : Int32, ((S 0 (x3 + (3 : Int32)).toNatClampNeg) = 0 → s0 = 0) → (¬ (S 0 (x3 + (3 : Int32)).toNatClampNeg) = 0 → s0 = 1) → nxt L S x3 (f0_953_18 L S G x3 s0 (S 0 (x3 + (2 : Int32)).toNatClampNeg) (S 0 (x3 + (1 : Int32)).toNatClampNeg)) := by
      intro s0 z0 z1
      unfold f0_953_18
      refine fin1 (c_gives h (S 0 (x3 + (1 : Int32)).toNatClampNeg) (S 0 (x3 + (2 : Int32)).toNatClampNeg) s0) _ (fun r => ?_)
      show ov_ck _ (ov_ck _ (ov_ck _ _)) = _
      rw [kk, kk2, kk3]
      by_cases z : (S 0 (x3 + (3 : Int32)).toNatClampNeg) = 0
      · rw [if_pos z, z0 z]
        rfl
      · rw [if_neg z, z1 z]
        rfl
    by_cases z : (S 0 (x3 + (3 : Int32)).toNatClampNeg) = 0
    · rw [if_pos z]
      exact go 0 (fun _ => rfl) (fun q => absurd z q)
    · rw [if_neg z]
      exact go 1 (fun q => absurd q z) (fun _ => rfl)
  rw [if_neg (show ¬ nI k = (27 : Int32) from nI_ne (b := 27) c27 (by omega) (by omega))]
  by_cases c28 : k = 28
  · rw [if_pos (show nI k = (28 : Int32) by rw [c28]; rfl)]
    obtain ⟨r, S2, G1, G2, q1, q2, q3, q4⟩ := c_seed h ((((S 0 (x3 + (1 : Int32)).toNatClampNeg)).toInt64 <<< (((32 : Int32)).toInt64 &&& 63)) ||| (((S 0 (x3 + (2 : Int32)).toNatClampNeg)).toInt64 &&& (4294967295 : Int64)))
    rw [q1, Option.bind_some]
    dsimp only
    rw [q2, Option.bind_some]
    dsimp only
    rw [if_pos (show lg_cmp r r = 0 by unfold lg_cmp; rw [if_neg (fun z => Int64.lt_irrefl z), if_pos rfl])]
    exact ⟨S2, G2, rfl, ⟨P, q3⟩, q4⟩
  rw [if_neg (show ¬ nI k = (28 : Int32) from nI_ne (b := 28) c28 (by omega) (by omega))]
  by_cases c29 : k = 29
  · rw [if_pos (show nI k = (29 : Int32) by rw [c29]; rfl)]
    obtain ⟨r, S1, G1, S2, G2, q1, q2, q3, q4, q5⟩ := c_evenings h (S 0 (x3 + (1 : Int32)).toNatClampNeg)
    rw [q1, Option.bind_some]
    dsimp only
    rw [q4, q2, Option.bind_some]
    dsimp only
    rw [if_pos rfl]
    exact ⟨S2, G2, rfl, ⟨P, q3⟩, q5⟩
  rw [if_neg (show ¬ nI k = (29 : Int32) from nI_ne (b := 29) c29 (by omega) (by omega))]
  by_cases c30 : k = 30
  · rw [if_pos (show nI k = (30 : Int32) by rw [c30]; rfl)]
    exact fin2 (c_keep h (S 0 (x3 + (1 : Int32)).toNatClampNeg)) _ (fun r S1 e => by dsimp only; rw [e])
  rw [if_neg (show ¬ nI k = (30 : Int32) from nI_ne (b := 30) c30 (by omega) (by omega))]
  by_cases c31 : k = 31
  · rw [if_pos (show nI k = (31 : Int32) by rw [c31]; rfl)]
    exact fin2 (c_again h (S 0 (x3 + (1 : Int32)).toNatClampNeg)) _ (fun r S1 e => by dsimp only; rw [e])
  rw [if_neg (show ¬ nI k = (31 : Int32) from nI_ne (b := 31) c31 (by omega) (by omega))]
  omega
