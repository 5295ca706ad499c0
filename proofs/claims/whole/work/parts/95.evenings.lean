-- CALLS: evenings, gives; fractions
theorem lot_e (v : Int64) : ((v.toUInt64 >>> ((33 : Int32).toInt64.toUInt64 &&& Int64.toUInt64 63)).toInt64) = lN (v.toUInt64.toNat / 2 ^ 33) := by
  apply Int64.toBitVec_inj.mp
  apply BitVec.eq_of_toNat_eq
  show (v.toUInt64 >>> ((33 : Int32).toInt64.toUInt64 &&& Int64.toUInt64 63)).toNat = (BitVec.ofNat 64 (v.toUInt64.toNat / 2 ^ 33)).toNat
  have h : ((33 : Int32).toInt64.toUInt64 &&& Int64.toUInt64 63).toNat % 64 = 33 := by decide
  have h2 : v.toUInt64.toNat < 2 ^ 64 := v.toUInt64.toNat_lt
  rw [UInt64.toNat_shiftRight, h, Nat.shiftRight_eq_div_pow, BitVec.toNat_ofNat, Nat.mod_eq_of_lt (by omega)]
def lotn (v : Int64) : Nat := v.toUInt64.toNat / 2 ^ 33 % 42
theorem lot_i (v : Int64) : (((v.toUInt64 >>> ((33 : Int32).toInt64.toUInt64 &&& Int64.toUInt64 63)).toInt64) - ((v.toUInt64 >>> ((33 : Int32).toInt64.toUInt64 &&& Int64.toUInt64 63)).toInt64) / (42 : Int64) * (42 : Int64)).toInt32 = nI (lotn v) := by
  have h2 : v.toUInt64.toNat < 2 ^ 64 := v.toUInt64.toNat_lt
  rw [lot_e, show (42 : Int64) = lN 42 from rfl, pk_lRem (by omega) (by omega) (by omega), lN_i]
  rfl
theorem lotn_lt (v : Int64) : lotn v < 42 := Nat.mod_lt _ (by decide)
def sqn (v : Int64) : Int64 := v * (6364136223846793005 : Int64) + (1442695040888963407 : Int64)
def sq (v : Int64) : Nat → Int64
  | 0 => v
  | i + 1 => sqn (sq v i)
def eW (l : Nat) : Nat := if 24 ≤ l then 1 else 2
def eK (l : Nat) : Nat := if 24 ≤ l then (l - 24) / 3 else l / 4
def eT (l : Nat) : Nat := if 24 ≤ l then l % 3 else l % 4
def evp (P : pl_T) (v : Int64) (g : pg_g) : Nat → pg_g
  | 0 => g
  | i + 1 => (dsg P (evp P v g i) (eW (lotn (sq v (i + 1)))) (eK (lotn (sq v (i + 1)))) (eT (lotn (sq v (i + 1))))).getD (evp P v g i)
def evs (P : pl_T) (v : Int64) (g : pg_g) : Nat → Int32
  | 0 => 0
  | i + 1 => evs P v g i + nI (pc (snm P (evp P v g (i + 1))))
theorem dok_g {P : pl_T} {g g' : pg_g} {w k t : Nat} {r : Int32} (h : dok P g w k t r g') : g' = (dsg P g w k t).getD g := by
  rcases h with ⟨h, _⟩ | ⟨h, _, h2⟩
  · rw [h]
    rfl
  · rw [h, h2]
    rfl
def eb1 (x1 x2 x3 l : Int32) (S : ov_S) (G : ov_L2) : Option ((Int32 × Int32 × ov_S × ov_L2) ⊕ (Int32 × ov_S × ov_L2)) :=
  if (24 : Int32) ≤ l then (f74 21 S ((l - (24 : Int32)) / (3 : Int32)) ((l - (24 : Int32)) - (l - (24 : Int32)) / (3 : Int32) * (3 : Int32))).bind fun y5 => f139_112_29 y5.2 G x1 x2 x3 else (f78 21 S (l / (4 : Int32)) (l - l / (4 : Int32) * (4 : Int32))).bind fun y8 => f139_112_29 y8.2 G x1 x2 x3
def eb2 (x1 x2 x3 l : Int32) (S : ov_S) (G : ov_L2) : Option ((Int32 × Int32 × ov_S × ov_L2) ⊕ (Int32 × ov_S × ov_L2)) :=
  if (24 : Int32) ≤ l then f223_117_37 S G x1 x2 x3 (((100 : Int32) + ((10 : Int32) * ((l - (24 : Int32)) / (3 : Int32)))) + (l - l / (3 : Int32) * (3 : Int32))) else f223_117_37 S G x1 x2 x3 (((200 : Int32) + ((10 : Int32) * (l / (4 : Int32)))) + (l - l / (4 : Int32) * (4 : Int32)))
theorem eb1_e (x1 x2 x3 : Int32) (S : ov_S) (G : ov_L2) : b139_29 x1 x2 x3 S G = (if x1 ≤ x3 then some (.inr (x2, S, G)) else eb1 x1 x2 x3 (nI (lotn (sqn (G 1)))) S (ov_ug G 1 (sqn (G 1)))) := by
  rw [← lot_i]
  rfl
theorem eb2_e (x1 x2 x3 : Int32) (S : ov_S) (G : ov_L2) : b223_37 x1 x2 x3 S G = (if x1 ≤ x3 then some (.inr (x2, S, G)) else eb2 x1 x2 x3 (nI (lotn (sqn (G 42)))) S (ov_ug G 42 (sqn (G 42)))) := by
  rw [← lot_i]
  rfl
section
variable {S : ov_S} {G : ov_L2} {P : pl_T} {a : Nat} {g : pg_g} {p : Nat}
theorem seb1 (R : pl_R S P) (hv : pg_V g (pN P) (pF P)) (he : pg_E S 21 g (pF P)) (x1 x2 x3 : Int32) {l : Nat} (hl : l < 42) (G : ov_L2) : ∃ r T g', eb1 x1 x2 x3 (nI l) S G = some (.inl (x2 + nI (pc (snm P g')), x3 + 1, T, G)) ∧ ag [21, 22] S T ∧ pg_E T 21 g' (pF P) ∧ dok P g (eW l) (eK l) (eT l) r g' := by
  have fin : ∀ (T : ov_S) (g' : pg_g), ag [21, 22] S T → pg_E T 21 g' (pF P) → pg_V g' (pN P) (pF P) → f139_112_29 T G x1 x2 x3 = some (.inl (x2 + nI (pc (snm P g')), x3 + 1, T, G)) := by
    intro T g' h1 h2 h3
    have RT := r_ag R h1 (by decide)
    have := snm_lt (g := g') R
    unfold f139_112_29
    rw [s36 RT h3 h2, Option.bind_some, s69 (by omega)]
    rfl
  unfold eb1
  by_cases q : 24 ≤ l
  · have e1 : (nI l - (24 : Int32)) / (3 : Int32) = nI ((l - 24) / 3) := by rw [show (24 : Int32) = nI 24 from rfl, show (3 : Int32) = nI 3 from rfl, pk_sub q, pk_div (by omega) (by omega) (by omega)]
    have e2 : (nI l - (24 : Int32)) - (nI l - (24 : Int32)) / (3 : Int32) * (3 : Int32) = nI (l % 3) := by
      rw [show (24 : Int32) = nI 24 from rfl, show (3 : Int32) = nI 3 from rfl, pk_sub q, pk_rem (by omega) (by omega) (by omega)]
      congr 1
      omega
    obtain ⟨r, T, g', t1, t2, t3, t4⟩ := ent1 R hv he (k := (l - 24) / 3) (t := l % 3) (by omega) (by omega)
    rw [if_pos (show (24 : Int32) ≤ nI l from le_nI (a := 24) q (by omega)), e2, e1, t1, Option.bind_some, fin T g' t2 t3 (dok_v R hv t4)]
    refine ⟨r, T, g', rfl, t2, t3, ?_⟩
    unfold eW eK eT
    rw [if_pos q, if_pos q, if_pos q]
    exact t4
  · have e1 : nI l / (4 : Int32) = nI (l / 4) := by rw [show (4 : Int32) = nI 4 from rfl, pk_div (by omega) (by omega) (by omega)]
    have e2 : nI l - nI l / (4 : Int32) * (4 : Int32) = nI (l % 4) := by rw [show (4 : Int32) = nI 4 from rfl, pk_rem (by omega) (by omega) (by omega)]
    obtain ⟨r, T, g', t1, t2, t3, t4⟩ := wal1 R hv he (k := l / 4) (t := l % 4) (by omega) (by omega)
    rw [if_neg (show ¬ (24 : Int32) ≤ nI l from nle_nI (a := 24) (by omega) (by omega)), e2, e1, t1, Option.bind_some, fin T g' t2 t3 (dok_v R hv t4)]
    refine ⟨r, T, g', rfl, t2, t3, ?_⟩
    unfold eW eK eT
    rw [if_neg q, if_neg q, if_neg q]
    exact t4
theorem seb2 (R : pl_R S P) (hv : pg_V g (pN P) (pF P)) (he : pg_M S 56 g) (x1 x2 x3 : Int32) {l : Nat} (hl : l < 42) (G : ov_L2) : ∃ r T g', eb2 x1 x2 x3 (nI l) S G = some (.inl (x2 + nI (pc (snm P g')), x3 + 1, T, G)) ∧ ag [56] S T ∧ pg_M T 56 g' ∧ dok P g (eW l) (eK l) (eT l) r g' := by
  have fin : ∀ (x : Int32) (r : Int32) (T : ov_S) (g' : pg_g), f210 S x = some (r, T) → ag [56] S T → pg_M T 56 g' → pg_V g' (pN P) (pF P) → f223_117_37 S G x1 x2 x3 x = some (.inl (x2 + nI (pc (snm P g')), x3 + 1, T, G)) := by
    intro x r T g' h0 h1 h2 h3
    have RT := r_ag R h1 (by decide)
    have := snm_lt (g := g') R
    unfold f223_117_37
    rw [h0, Option.bind_some]
    dsimp only
    rw [s161 RT h3 h2, Option.bind_some, s191 (by omega)]
    rfl
  unfold eb2
  by_cases q : 24 ≤ l
  · have e1 : ((100 : Int32) + ((10 : Int32) * ((nI l - (24 : Int32)) / (3 : Int32)))) + (nI l - nI l / (3 : Int32) * (3 : Int32)) = nI (100 * 1 + 10 * ((l - 24) / 3) + l % 3) := by rw [show (24 : Int32) = nI 24 from rfl, show (3 : Int32) = nI 3 from rfl, show (100 : Int32) = nI 100 from rfl, show (10 : Int32) = nI 10 from rfl, pk_sub q, pk_div (by omega) (by omega) (by omega), pk_rem (by omega) (by omega) (by omega), pk_mul, nI_add, nI_add]
    obtain ⟨r, T, g', t1, t2, t3, t4⟩ := s210 R hv he (x := 100 * 1 + 10 * ((l - 24) / 3) + l % 3) (w := 1) (k := (l - 24) / 3) (t := l % 3) (by omega) (by omega) (by omega) rfl
    rw [if_pos (show (24 : Int32) ≤ nI l from le_nI (a := 24) q (by omega)), e1, fin _ r T g' t1 t2 t3 (dok_v R hv t4)]
    refine ⟨r, T, g', rfl, t2, t3, ?_⟩
    unfold eW eK eT
    rw [if_pos q, if_pos q, if_pos q]
    exact t4
  · have e1 : ((200 : Int32) + ((10 : Int32) * (nI l / (4 : Int32)))) + (nI l - nI l / (4 : Int32) * (4 : Int32)) = nI (100 * 2 + 10 * (l / 4) + l % 4) := by rw [show (4 : Int32) = nI 4 from rfl, show (200 : Int32) = nI (100 * 2) from rfl, show (10 : Int32) = nI 10 from rfl, pk_rem (by omega) (by omega) (by omega), pk_div (by omega) (by omega) (by omega), pk_mul, nI_add, nI_add]
    obtain ⟨r, T, g', t1, t2, t3, t4⟩ := s210 R hv he (x := 100 * 2 + 10 * (l / 4) + l % 4) (w := 2) (k := l / 4) (t := l % 4) (by omega) (by omega) (by omega) rfl
    rw [if_neg (show ¬ (24 : Int32) ≤ nI l from nle_nI (a := 24) (by omega) (by omega)), e1, fin _ r T g' t1 t2 t3 (dok_v R hv t4)]
    refine ⟨r, T, g', rfl, t2, t3, ?_⟩
    unfold eW eK eT
    rw [if_neg q, if_neg q, if_neg q]
    exact t4
theorem ug_eq {G : ov_L2} {a : Nat} {x : Int64} : ov_ug G a x a = x := if_pos rfl
theorem ug_ne {G : ov_L2} {a b : Nat} {x : Int64} (h : b ≠ a) : ov_ug G a x b = G b := if_neg h
theorem ev1 (h : in_P S G P) {m : Nat} (hm : m < 31) (h1 : 1 ≤ m) : ∃ T G1, f139 S G (nI m) = some (evs P (G 1) (S 55) m, T, G1) ∧ sm_S S T ∧ G1 1 = sq (G 1) m ∧ G1 42 = G 42 := by
  obtain ⟨S1, q1, q2, q3, q4, q5⟩ := tc_go h
  have hv := h.2.2.1.1
  have L : ∃ e, ov_lp (fun s => b139_29 (nI m) s.1 s.2.1 s.2.2.1 s.2.2.2) 2000 ((0 : Int32), (0 : Int32), S1, G) = some e ∧ (e.1 = evs P (G 1) (S 55) m ∧ sm_S S e.2.1 ∧ e.2.2 1 = sq (G 1) m ∧ e.2.2 42 = G 42) := by
    refine lp_inv (fun (i : Nat) (s : Int32 × Int32 × ov_S × ov_L2) => s.1 = evs P (G 1) (S 55) i ∧ s.2.1 = nI i ∧ sm_S S s.2.2.1 ∧ pg_E s.2.2.1 21 (evp P (G 1) (S 55) i) (pF P) ∧ pg_V (evp P (G 1) (S 55) i) (pN P) (pF P) ∧ s.2.2.2 1 = sq (G 1) i ∧ s.2.2.2 42 = G 42) (fun (e : Int32 × ov_S × ov_L2) => e.1 = evs P (G 1) (S 55) m ∧ sm_S S e.2.1 ∧ e.2.2 1 = sq (G 1) m ∧ e.2.2 42 = G 42) m ?_ ?_ 0 _ (by omega) ⟨rfl, rfl, q5, q3, hv, rfl, rfl⟩ (by omega)
    · rintro i ⟨x2, x3, T, H⟩ hi ⟨w1, w2, w3, w4, w5, w6, w7⟩
      replace w1 : x2 = evs P (G 1) (S 55) i := w1
      replace w2 : x3 = nI i := w2
      replace w3 : sm_S S T := w3
      replace w4 : pg_E T 21 (evp P (G 1) (S 55) i) (pF P) := w4
      replace w6 : H 1 = sq (G 1) i := w6
      replace w7 : H 42 = G 42 := w7
      have RT := r_sm h.2.1 w3
      obtain ⟨r, T', g', t1, t2, t3, t4⟩ := seb1 RT w5 w4 (nI m) x2 x3 (l := lotn (sqn (H 1))) (lotn_lt _) (ov_ug H 1 (sqn (H 1)))
      have eg : g' = evp P (G 1) (S 55) (i + 1) := by
        rw [dok_g t4, w6]
        rfl
      have vg := dok_v RT w5 t4
      rw [eg] at t1 t3 vg
      refine ⟨(x2 + nI (pc (snm P (evp P (G 1) (S 55) (i + 1)))), x3 + 1, T', ov_ug H 1 (sqn (H 1))), ?_, ?_, ?_, sm_tr w3 (sm_ag t2 sc_22), t3, vg, ?_, ?_⟩
      · show b139_29 (nI m) x2 x3 T H = _
        rw [eb1_e, if_neg (by rw [w2]; exact nle_nI hi (by omega)), t1]
      · show x2 + nI (pc (snm P (evp P (G 1) (S 55) (i + 1)))) = _
        rw [w1]
        rfl
      · show x3 + 1 = _
        rw [w2, nI_1]
      · show ov_ug H 1 (sqn (H 1)) 1 = _
        rw [ug_eq, w6]
        rfl
      · show ov_ug H 1 (sqn (H 1)) 42 = _
        rw [ug_ne (by decide), w7]
    · rintro ⟨x2, x3, T, H⟩ ⟨w1, w2, w3, w4, w5, w6, w7⟩
      replace w2 : x3 = nI m := w2
      refine ⟨(x2, T, H), ?_, w1, w3, w6, w7⟩
      show b139_29 (nI m) x2 x3 T H = _
      rw [eb1_e, if_pos (by rw [w2]; exact le_nI (Nat.le_refl _) (by omega))]
  obtain ⟨⟨x2, T, H⟩, l1, l2, l3, l4, l5⟩ := L
  refine ⟨T, H, ?_, l3, l4, l5⟩
  unfold f139
  rw [if_neg (show ¬ nI m < (1 : Int32) from nlt_nI (b := 1) h1 (by omega)), if_pos (show nI m ≤ (30 : Int32) from le_nI (b := 30) (by omega) (by omega)), q1, Option.bind_some, l1, Option.bind_some]
  replace l2 : x2 = _ := l2
  rw [l2]
theorem ev2 (R : pl_R S P) (h55 : S 55 = g) (hv : pg_V g (pN P) (pF P)) {m : Nat} (hm : m < 31) (h1 : 1 ≤ m) (G : ov_L2) : ∃ T G1, f223 S G (nI m) = some (evs P (G 42) g m, T, G1) ∧ sm_S S T ∧ G1 42 = sq (G 42) m ∧ G1 1 = G 1 := by
  have e55 : (ov_up S 42 0 0) 55 = g := by
    rw [up_n1 (by decide)]
    exact h55
  obtain ⟨S1, q1, q2, q3, q4, q5⟩ := mc_go (r_sm R sm0) e55
  have L : ∃ e, ov_lp (fun s => b223_37 (nI m) s.1 s.2.1 s.2.2.1 s.2.2.2) 2000 ((0 : Int32), (0 : Int32), S1, G) = some e ∧ (e.1 = evs P (G 42) g m ∧ sm_S S e.2.1 ∧ e.2.2 42 = sq (G 42) m ∧ e.2.2 1 = G 1) := by
    refine lp_inv (fun (i : Nat) (s : Int32 × Int32 × ov_S × ov_L2) => s.1 = evs P (G 42) g i ∧ s.2.1 = nI i ∧ sm_S S s.2.2.1 ∧ pg_M s.2.2.1 56 (evp P (G 42) g i) ∧ pg_V (evp P (G 42) g i) (pN P) (pF P) ∧ s.2.2.2 42 = sq (G 42) i ∧ s.2.2.2 1 = G 1) (fun (e : Int32 × ov_S × ov_L2) => e.1 = evs P (G 42) g m ∧ sm_S S e.2.1 ∧ e.2.2 42 = sq (G 42) m ∧ e.2.2 1 = G 1) m ?_ ?_ 0 _ (by omega) ⟨rfl, rfl, sm_tr sm0 q5, q3, hv, rfl, rfl⟩ (by omega)
    · rintro i ⟨x2, x3, T, H⟩ hi ⟨w1, w2, w3, w4, w5, w6, w7⟩
      replace w1 : x2 = evs P (G 42) g i := w1
      replace w2 : x3 = nI i := w2
      replace w3 : sm_S S T := w3
      replace w4 : pg_M T 56 (evp P (G 42) g i) := w4
      replace w6 : H 42 = sq (G 42) i := w6
      replace w7 : H 1 = G 1 := w7
      have RT := r_sm R w3
      obtain ⟨r, T', g', t1, t2, t3, t4⟩ := seb2 RT w5 w4 (nI m) x2 x3 (l := lotn (sqn (H 42))) (lotn_lt _) (ov_ug H 42 (sqn (H 42)))
      have eg : g' = evp P (G 42) g (i + 1) := by
        rw [dok_g t4, w6]
        rfl
      have vg := dok_v RT w5 t4
      rw [eg] at t1 t3 vg
      refine ⟨(x2 + nI (pc (snm P (evp P (G 42) g (i + 1)))), x3 + 1, T', ov_ug H 42 (sqn (H 42))), ?_, ?_, ?_, sm_tr w3 (sm_ag t2 (fun i hi j => by rw [List.mem_singleton.mp hi]; rfl)), t3, vg, ?_, ?_⟩
      · show b223_37 (nI m) x2 x3 T H = _
        rw [eb2_e, if_neg (by rw [w2]; exact nle_nI hi (by omega)), t1]
      · show x2 + nI (pc (snm P (evp P (G 42) g (i + 1)))) = _
        rw [w1]
        rfl
      · show x3 + 1 = _
        rw [w2, nI_1]
      · show ov_ug H 42 (sqn (H 42)) 42 = _
        rw [ug_eq, w6]
        rfl
      · show ov_ug H 42 (sqn (H 42)) 1 = _
        rw [ug_ne (by decide), w7]
    · rintro ⟨x2, x3, T, H⟩ ⟨w1, w2, w3, w4, w5, w6, w7⟩
      replace w2 : x3 = nI m := w2
      refine ⟨(x2, T, H), ?_, w1, w3, w6, w7⟩
      show b223_37 (nI m) x2 x3 T H = _
      rw [eb2_e, if_pos (by rw [w2]; exact le_nI (Nat.le_refl _) (by omega))]
  obtain ⟨⟨x2, T, H⟩, l1, l2, l3, l4, l5⟩ := L
  refine ⟨T, H, ?_, l3, l4, l5⟩
  have in30 : (1 : Int32) ≤ nI m ∧ nI m ≤ (30 : Int32) := ⟨le_nI (a := 1) h1 (by omega), le_nI (b := 30) (by omega) (by omega)⟩
  unfold f223
  rw [show f144 (nI m).toInt64 (1 : Int64) (30 : Int64) = some (if (1 : Int32) ≤ nI m ∧ nI m ≤ (30 : Int32) then 1 else 0) from s144 _ 1 30, if_pos in30, Option.bind_some, if_neg (by decide), q1, Option.bind_some, l1, Option.bind_some]
  replace l2 : x2 = _ := l2
  rw [l2]
theorem in_G {G' : ov_L2} (h : in_P S G P) (e : G' 1 = G' 42) : in_P S G' P := ⟨h.1, h.2.1, h.2.2.1, h.2.2.2.1, h.2.2.2.2.1, h.2.2.2.2.2.1, e⟩
theorem c_evenings (h : in_P S G P) (x : Int32) : ∃ r S1 G1 S2 G2, f139 S G x = some (r, S1, G1) ∧ f223 S1 G1 x = some (r, S2, G2) ∧ in_P S2 G2 P ∧ S1 0 = S 0 ∧ S2 0 = S 0 := by
  have e144 : ∀ z : Int32, f144 z.toInt64 (1 : Int64) (30 : Int64) = some (if (1 : Int32) ≤ z ∧ z ≤ (30 : Int32) then 1 else 0) := fun z => s144 z 1 30
  by_cases h1 : x < 1
  · refine ⟨-2, S, G, ov_up S 42 0 0, G, ?_, ?_, in_t0 h, rfl, up_0 (by decide)⟩
    · unfold f139
      rw [if_pos h1]
    · unfold f223
      rw [e144, if_neg (fun q => absurd q.1 (Int32.not_le.mpr h1))]
      rfl
  by_cases h4 : (30 : Int32) < x
  · refine ⟨-2, S, G, ov_up S 42 0 0, G, ?_, ?_, in_t0 h, rfl, up_0 (by decide)⟩
    · unfold f139
      rw [if_neg h1, if_neg (Int32.not_le.mpr h4)]
    · unfold f223
      rw [e144, if_neg (fun q => absurd q.2 (Int32.not_le.mpr h4))]
      rfl
  obtain ⟨n, hn, rfl⟩ : ∃ n, n < 31 ∧ x = nI n := by
    rcases pk_ix x (n := 31) (by omega) with q | q | q
    · exfalso
      rw [Int32.lt_iff_toInt_lt] at q h1
      have : (1 : Int32).toInt = 1 := by decide
      have : (0 : Int32).toInt = 0 := by decide
      omega
    · exfalso
      rw [Int32.le_iff_toInt_le, nI_toInt (by omega)] at q
      rw [Int32.lt_iff_toInt_lt] at h4
      have : (30 : Int32).toInt = 30 := by decide
      omega
    · exact q
  have n1 : 1 ≤ n := by
    rcases Nat.eq_zero_or_pos n with q | q
    · rw [q] at h1
      exact absurd (show nI 0 < 1 by decide) h1
    · exact q
  obtain ⟨T1, G1, a1, a2, a3, a4⟩ := ev1 h hn n1
  obtain ⟨T2, G2, b1, b2, b3, b4⟩ := ev2 (r_sm h.2.1 a2) (funext fun j => a2 55 j rfl) h.2.2.1.1 hn n1 G1
  rw [a4, ← h.2.2.2.2.2.2] at b1 b3
  exact ⟨_, T1, G1, T2, G2, a1, b1, in_G (in_sm (sm_tr a2 b2) h) (by rw [b4, a3, b3]), sm_0 a2, sm_0 (sm_tr a2 b2)⟩
end
