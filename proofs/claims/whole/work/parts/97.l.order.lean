-- CALLS: order
def lgi (P : pl_T) (g : pg_g) (r : Nat → Nat) : Nat → pg_g
  | 0 => g
  | i + 1 => cag P (lgi P g r i) (r i)
def lni (x : Int32) (r : Nat → Nat) : Nat → Int32
  | 0 => x
  | i + 1 => (((10 : Int32) * lni x r i) + nI (r i)) + 1
theorem lgi_c {P : pl_T} (r : Nat → Nat) : ∀ (i : Nat) (g : pg_g), lgi P g r (i + 1) = lgi P (cag P g (r 0)) (fun j => r (j + 1)) i
  | 0, _ => rfl
  | i + 1, g => by
    show cag P (lgi P g r (i + 1)) (r (i + 1)) = cag P (lgi P (cag P g (r 0)) (fun j => r (j + 1)) i) (r (i + 1))
    rw [lgi_c r i g]
theorem lni_c (r : Nat → Nat) : ∀ (i : Nat) (x : Int32), lni x r (i + 1) = lni ((((10 : Int32) * x) + nI (r 0)) + 1) (fun j => r (j + 1)) i
  | 0, _ => rfl
  | i + 1, x => by
    show (((10 : Int32) * lni x r (i + 1)) + nI (r (i + 1))) + 1 = (((10 : Int32) * lni ((((10 : Int32) * x) + nI (r 0)) + 1) (fun j => r (j + 1)) i) + nI (r (i + 1))) + 1
    rw [lni_c r i x]
theorem lfG_i {P : pl_T} : ∀ (l : List Nat) (g : pg_g), lfG P g l = lgi P g (rwf l) l.length
  | [], _ => rfl
  | k :: t, g => by
    show lfG P (cag P g k) t = lgi P g (rwf (k :: t)) (t.length + 1)
    rw [lgi_c, lfG_i t]
    rfl
theorem lfN_i : ∀ (l : List Nat) (x : Int32), lfN x l = lni x (rwf l) l.length
  | [], _ => rfl
  | k :: t, x => by
    show lfN ((((10 : Int32) * x) + nI k) + 1) t = lni x (rwf (k :: t)) (t.length + 1)
    rw [lni_c, lfN_i t]
    rfl
theorem nd_ne : ∀ (l : List Nat) (i j : Nat), ndB l = true → i < j → j < l.length → rwf l i ≠ rwf l j
  | [], _, j, _, _, h => absurd h (Nat.not_lt_zero _)
  | k :: t, i, j, h, hij, hj => by
    have h : (t.all (fun j => j != k) && ndB t) = true := h
    rw [Bool.and_eq_true] at h
    obtain ⟨b, rfl⟩ : ∃ b, j = b + 1 := ⟨j - 1, by omega⟩
    have hb : b < t.length := by
      have : b + 1 < t.length + 1 := hj
      omega
    have eb : rwf (k :: t) (b + 1) = t[b] := by
      show (k :: t).getD (b + 1) 0 = t[b]
      simp [hb]
    cases i with
    | zero =>
      rw [eb]
      have := List.all_eq_true.mp h.1 t[b] (List.getElem_mem hb)
      show k ≠ t[b]
      intro q
      rw [← q] at this
      simp at this
    | succ i => exact nd_ne t i b h.2 (by omega) hb
theorem rwf_m {l : List Nat} {m j : Nat} (h : l.all (fun k => m.testBit k) = true) (hj : j < l.length) : m.testBit (rwf l j) = true := by
  have e : rwf l j = l[j] := by
    show l.getD j 0 = l[j]
    simp [hj]
  rw [e]
  exact List.all_eq_true.mp h l[j] (List.getElem_mem hj)
section
variable {S : ov_S} {G : ov_L2} {P : pl_T} {a : Nat} {g : pg_g} {p : Nat}
theorem lgi_o (r : Nat → Nat) {x : Nat} : ∀ i, (∀ j, j < i → r j ≠ x) → lgi P g r i x = g x
  | 0, _ => rfl
  | i + 1, h => by
    show cag P (lgi P g r i) (r i) x = g x
    rw [cag_o (fun q => h i (by omega) q.symm), lgi_o r i (fun j hj => h j (by omega))]
theorem lgi_v (R : pl_R S P) (hv : pg_V g (pN P) (pF P)) (r : Nat → Nat) : ∀ i, (∀ j, j < i → r j < pN P) → pg_V (lgi P g r i) (pN P) (pF P)
  | 0, _ => hv
  | i + 1, h => cag_v (lgi_v R hv r i (fun j hj => h j (by omega))) R (h i (by omega))
/-- one order played -/
theorem s203_71 (R : pl_R S P) (hv : pg_V g (pN P) (pF P)) (hm : pg_M S 56 g) {n : Nat} {r : Nat → Nat} (h6 : n ≤ 6) (hr : row64 S n r) (hb : ∀ j, j < n → r j < pN P ∧ g (r j) = -9) (hd : ∀ i j, i < j → j < n → r i ≠ r j) : ∃ T, ov_lp (fun s => b203_71 (nI n) s.1 s.2.1 s.2.2) 2000 ((0 : Int32), (0 : Int32), S) = some (lni 0 r n, T) ∧ ag [56, 63] S T ∧ pg_M T 56 (lgi P g r n) := by
  have L : ∃ e, ov_lp (fun s => b203_71 (nI n) s.1 s.2.1 s.2.2) 2000 ((0 : Int32), (0 : Int32), S) = some e ∧ (e.1 = lni 0 r n ∧ ag [56, 63] S e.2 ∧ pg_M e.2 56 (lgi P g r n)) := by
    refine lp_inv (fun (i : Nat) (s : Int32 × Int32 × ov_S) => s.1 = lni 0 r i ∧ s.2.1 = nI i ∧ ag [56, 63] S s.2.2 ∧ pg_M s.2.2 56 (lgi P g r i)) (fun (e : Int32 × ov_S) => e.1 = lni 0 r n ∧ ag [56, 63] S e.2 ∧ pg_M e.2 56 (lgi P g r n)) n ?_ ?_ 0 _ (by omega) ⟨rfl, rfl, ag_rf, hm⟩ (by omega)
    · rintro i ⟨x3, x4, T⟩ hi ⟨w1, w2, w3, w4⟩
      replace w1 : x3 = lni 0 r i := w1
      replace w2 : x4 = nI i := w2
      replace w3 : ag [56, 63] S T := w3
      replace w4 : pg_M T 56 (lgi P g r i) := w4
      subst w1 w2
      have RT := r_ag R w3 (by decide)
      obtain ⟨b1, b2⟩ := hb i hi
      obtain ⟨e64, l64⟩ := hr i hi
      obtain ⟨T', t1, t2, t3⟩ := s204 RT (lgi_v R hv r i (fun j hj => (hb j (by omega)).1)) w4 b1 (by rw [lgi_o r i (fun j hj => hd j i hj hi)]; exact b2)
      refine ⟨(lni 0 r (i + 1), nI (i + 1), T'), ?_, rfl, rfl, ag_tr w3 t2, t3⟩
      show b203_71 (nI n) (lni 0 r i) (nI i) T = _
      unfold b203_71
      rw [if_neg (nle_nI hi (by omega)), ov_ck_t (ib_nI (by omega) (by omega)), nI_clamp (by omega), w3 64 (by decide), e64, t1, Option.bind_some, ov_ck_t (ib_nI (by omega) (by omega)), t2 64 (by decide), w3 64 (by decide), e64, nI_1]
      rfl
    · rintro ⟨x3, x4, T⟩ ⟨w1, w2, w3⟩
      replace w2 : x4 = nI n := w2
      refine ⟨(x3, T), ?_, w1, w3⟩
      show b203_71 (nI n) x3 x4 T = _
      unfold b203_71
      rw [w2, if_pos (le_nI (Nat.le_refl _) (by omega))]
  obtain ⟨⟨x3, T⟩, l1, l2, l3⟩ := L
  replace l2 : x3 = _ := l2
  rw [l2] at l1
  exact ⟨T, l1, l3⟩
/-- all orders, one after the other -/
theorem s203_49 {m : Nat} (hv : pg_V g (pN P) (pF P)) (hw : ∀ k, m.testBit k = true → k < pN P ∧ g k = -9) {n : Nat} (h6 : n ≤ 6) : ∀ (ls : List (List Nat)) (l : List Nat) N (S : ov_S), chB n (l :: ls) = true → (l :: ls).all (okB m n) = true → pl_R S P → S 55 = g → row64 S n (rwf l) → ls.length + 2 < N → ∃ T, ov_lp (fun s => b203_49 (nI n) s.1 s.2) N ((1 : Int32), S) = some T ∧ sm_S S T ∧ (T 42 37, T 42 36) = ofl P g 0 (l :: ls) (S 42 37, S 42 36) := by
  have one : ∀ (l : List Nat) (S : ov_S), okB m n l = true → pl_R S P → S 55 = g → row64 S n (rwf l) → ∃ U, sm_S S U ∧ U 64 = S 64 ∧ (U 42 37, U 42 36) = ost P g 0 (S 42 37, S 42 36) l ∧ b203_49 (nI n) 1 S = (f205 U (nI n)).bind fun y14 => some (.inl (y14.1, y14.2)) := by
    intro l S hl R h55 hr
    unfold okB at hl
    rw [Bool.and_eq_true, Bool.and_eq_true, beq_iff_eq] at hl
    obtain ⟨hn, hl1, hl2⟩ := hl
    obtain ⟨T1, u1, u2, u3, u4, u5⟩ := mc_go R h55
    have hb : ∀ j, j < n → rwf l j < pN P ∧ g (rwf l j) = -9 := fun j hj => hw _ (rwf_m hl1 (by omega))
    obtain ⟨T2, v1, v2, v3⟩ := s203_71 u4 hv u3 h6 (fun j hj => by rw [u2 64 (by decide)]; exact hr j hj) hb (fun i j hij hj => nd_ne l i j hl2 hij (by omega))
    have R2 := r_ag u4 v2 (by decide)
    have V2 := lgi_v u4 hv (rwf l) n (fun j hj => (hb j hj).1)
    have bd := hdm_lt (g := lgi P g (rwf l) n) R
    have a2 : ag [56, 63] S T2 := ag_tr (ag_mo u2 (by decide)) v2
    have e42 : T2 42 = S 42 := a2 42 (by decide)
    have s2 : sm_S S T2 := sm_ag a2 sc_l
    have eG : lfG P g l = lgi P g (rwf l) n := by rw [lfG_i, hn]
    have eN : lfN 0 l = lni 0 (rwf l) n := by rw [lfN_i, hn]
    have c0 : b203_49 (nI n) 1 S = (if nI (pc (hdm P (lgi P g (rwf l) n))) ≤ T2 42 37 then f203_140_49 T2 (nI n) (nI (pc (hdm P (lgi P g (rwf l) n)))) (T2 42 36) else f203_140_49 T2 (nI n) (nI (pc (hdm P (lgi P g (rwf l) n)))) (lni 0 (rwf l) n)) := by
      unfold b203_49
      rw [if_neg (by decide), u1, Option.bind_some, v1, Option.bind_some]
      dsimp only
      rw [s163 R2 V2 v3, Option.bind_some, s191 (by omega), Option.bind_some]
    have fin : ∀ x y : Int32, sm_S S (ov_up (ov_up T2 42 36 x) 42 37 y) ∧ (ov_up (ov_up T2 42 36 x) 42 37 y) 64 = S 64 ∧ (ov_up (ov_up T2 42 36 x) 42 37 y) 42 37 = y ∧ (ov_up (ov_up T2 42 36 x) 42 37 y) 42 36 = x := fun x y => ⟨sm_tr s2 (sm_tr (sm_up rfl) (sm_up rfl)), by rw [up_n1 (by decide), up_n1 (by decide), a2 64 (by decide)], up_eq, by rw [up_n2 (by decide), up_eq]⟩
    unfold f203_140_49 f203_162_49 at c0
    rw [up_n2 (show 37 ≠ 36 by decide), up_n2 (show 37 ≠ 36 by decide), e42] at c0
    by_cases q : nI (pc (hdm P (lgi P g (rwf l) n))) ≤ S 42 37
    · rw [if_pos q, if_pos q] at c0
      obtain ⟨f1, f2, f3, f4⟩ := fin (S 42 36) (S 42 37)
      refine ⟨_, f1, f2, ?_, c0⟩
      rw [f3, f4]
      unfold ost
      rw [eG, if_pos q]
    · rw [if_neg q, if_neg q] at c0
      obtain ⟨f1, f2, f3, f4⟩ := fin (lni 0 (rwf l) n) (nI (pc (hdm P (lgi P g (rwf l) n))))
      refine ⟨_, f1, f2, ?_, c0⟩
      rw [f3, f4]
      unfold ost
      rw [eG, eN, if_neg q]
  have stop : ∀ (M : Nat) (T : ov_S), ov_lp (fun s => b203_49 (nI n) s.1 s.2) (M + 1) ((0 : Int32), T) = some T := fun M T => by
    apply lp_stop
    show b203_49 (nI n) 0 T = _
    unfold b203_49
    rw [if_pos rfl]
  intro ls
  induction ls with
  | nil =>
    intro l N S hc ha R h55 hr hN
    obtain ⟨M, rfl⟩ : ∃ M, N = M + 1 + 1 := ⟨N - 2, by omega⟩
    have hl : okB m n l = true := List.all_eq_true.mp ha l List.mem_cons_self
    obtain ⟨U, u1, u2, u3, u4⟩ := one l S hl R h55 hr
    have hU : row64 U n (rwf l) := fun j hj => by rw [u2]; exact hr j hj
    have nn : npF n (rwf l) = none := by
      have hc : (match npF n (rwf l) with | some _ => false | none => true) = true := hc
      cases z : npF n (rwf l) with
      | none => rfl
      | some r =>
        rw [z] at hc
        cases hc
    rcases s205 hU h6 with ⟨_, z2⟩ | ⟨r', T, z1, _⟩
    · rw [z2, Option.bind_some] at u4
      rw [lp_go (body := fun s => b203_49 (nI n) s.1 s.2) (s := ((1 : Int32), S)) (s' := ((0 : Int32), U)) u4, stop]
      exact ⟨U, rfl, u1, u3⟩
    · rw [nn] at z1
      cases z1
  | cons q t ih =>
    intro l N S hc ha R h55 hr hN
    obtain ⟨M, rfl⟩ : ∃ M, N = M + 1 := ⟨N - 1, by omega⟩
    have hl : okB m n l = true := List.all_eq_true.mp ha l List.mem_cons_self
    obtain ⟨U, u1, u2, u3, u4⟩ := one l S hl R h55 hr
    have hU : row64 U n (rwf l) := fun j hj => by rw [u2]; exact hr j hj
    have hc : (stB n l q && chB n (q :: t)) = true := hc
    rw [Bool.and_eq_true] at hc
    rcases s205 hU h6 with ⟨z1, _⟩ | ⟨r', T, z1, z2, z3, z4⟩
    · have := hc.1
      unfold stB at this
      rw [z1] at this
      cases this
    · have eq : ∀ j, j < n → r' j = rwf q j := by
        have := hc.1
        unfold stB at this
        rw [z1] at this
        intro j hj
        have := List.all_eq_true.mp this j (List.mem_range.mpr hj)
        simpa using this
      have hT : row64 T n (rwf q) := fun j hj => by rw [← eq j hj]; exact z4 j hj
      have s3 : sm_S S T := sm_tr u1 (sm_ag z3 (fun i hi j => by rw [List.mem_singleton.mp hi]; rfl))
      have ha' : (q :: t).all (okB m n) = true := List.all_eq_true.mpr fun y hy => List.all_eq_true.mp ha y (List.mem_cons_of_mem _ hy)
      have lt : t.length + 2 < M := by
        have : t.length + 1 + 2 < M + 1 := hN
        omega
      obtain ⟨T2, y1, y2, y3⟩ := ih q M T hc.2 ha' (r_sm R s3) ((funext fun j => s3 55 j rfl).trans h55) hT lt
      rw [z2, Option.bind_some] at u4
      rw [lp_go (body := fun s => b203_49 (nI n) s.1 s.2) (s := ((1 : Int32), S)) (s' := ((1 : Int32), T)) u4]
      refine ⟨T2, y1, sm_tr s3 y2, ?_⟩
      rw [y3, z3 42 (by decide)]
      show ofl P g 0 (q :: t) (U 42 37, U 42 36) = ofl P g 0 (q :: t) (ost P g 0 (S 42 37, S 42 36) l)
      rw [u3]
/-- who waits, in a row -/
theorem s203_4 (R : pl_R S P) (hv : pg_V g (pN P) (pF P)) (h55 : S 55 = g) : ∃ T, ov_lp (fun s => b203_4 s.1 s.2.1 s.2.2) 2000 ((0 : Int32), (0 : Int32), S) = some (nI (srk (wtm P g) 6).length, T) ∧ sm_S S T ∧ row64 T (srk (wtm P g) 6).length (rwf (srk (wtm P g) 6)) := by
  have h6 := r_N6 R
  have wt := wtm_tb hv h6
  have len : ∀ k, (srk (wtm P g) k).length ≤ k := by
    intro k
    induction k with
    | zero => exact Nat.le_refl _
    | succ k ih =>
      unfold srk
      split
      · rw [List.length_append]
        show _ + 1 ≤ _
        omega
      · omega
  have lim : ∀ j, srk (wtm P g) (pN P + j) = srk (wtm P g) (pN P) := by
    intro j
    induction j with
    | zero => rfl
    | succ j ih =>
      show (if (wtm P g).testBit (pN P + j) then srk (wtm P g) (pN P + j) ++ [pN P + j] else srk (wtm P g) (pN P + j)) = _
      rw [if_neg (fun q => by have := ((wt _).mp q).1; omega), ih]
  have e6 : srk (wtm P g) 6 = srk (wtm P g) (pN P) := by
    have := lim (6 - pN P)
    rw [show pN P + (6 - pN P) = 6 by omega] at this
    exact this
  rw [e6]
  have L : ∃ e, ov_lp (fun s => b203_4 s.1 s.2.1 s.2.2) 2000 ((0 : Int32), (0 : Int32), S) = some e ∧ (e.1 = nI (srk (wtm P g) (pN P)).length ∧ sm_S S e.2 ∧ row64 e.2 (srk (wtm P g) (pN P)).length (rwf (srk (wtm P g) (pN P)))) := by
    refine lp_inv (fun (k : Nat) (s : Int32 × Int32 × ov_S) => s.1 = nI (srk (wtm P g) k).length ∧ s.2.1 = nI k ∧ sm_S S s.2.2 ∧ row64 s.2.2 (srk (wtm P g) k).length (rwf (srk (wtm P g) k))) (fun (e : Int32 × ov_S) => e.1 = nI (srk (wtm P g) (pN P)).length ∧ sm_S S e.2 ∧ row64 e.2 (srk (wtm P g) (pN P)).length (rwf (srk (wtm P g) (pN P)))) (pN P) ?_ ?_ 0 _ (by omega) ⟨rfl, rfl, sm_rf, fun j hj => absurd hj (Nat.not_lt_zero _)⟩ (by omega)
    · rintro k ⟨x1, x2, T⟩ hk ⟨w1, w2, w3, w4⟩
      replace w1 : x1 = nI (srk (wtm P g) k).length := w1
      replace w2 : x2 = nI k := w2
      replace w3 : sm_S S T := w3
      replace w4 : row64 T (srk (wtm P g) k).length (rwf (srk (wtm P g) k)) := w4
      subst w1 w2
      have RT := r_sm R w3
      have lk := len k
      have e55 : T 55 = g := (funext fun j => w3 55 j rfl).trans h55
      show ∃ s', b203_4 (nI (srk (wtm P g) k).length) (nI k) T = some (.inl s') ∧ _
      unfold b203_4 f203_35_4
      rw [r_mN RT, if_neg (nle_nI hk (by omega)), zadd, ov_ck_t (ib_nI (by omega) (by omega)), nI_clamp (by omega), e55]
      by_cases q : g k = -9
      · have un : srk (wtm P g) (k + 1) = srk (wtm P g) k ++ [k] := if_pos ((wt k).mpr ⟨hk, q⟩)
        have ul : (srk (wtm P g) (k + 1)).length = (srk (wtm P g) k).length + 1 := by
          rw [un, List.length_append]
          rfl
        rw [if_pos q, ov_ck_t (ib_nI (by omega) (by omega)), nI_clamp (by omega), nI_1]
        refine ⟨_, rfl, by rw [ul], nI_1 k, sm_tr w3 (sm_up rfl), fun j hj => ?_⟩
        show ov_up T 64 (srk (wtm P g) k).length (nI k) 64 j = _ ∧ _
        rw [ul] at hj
        rw [un]
        by_cases z : j = (srk (wtm P g) k).length
        · have e : rwf (srk (wtm P g) k ++ [k]) j = k := by
            show (srk (wtm P g) k ++ [k]).getD j 0 = k
            rw [z]
            simp
          rw [e, z, up_eq]
          exact ⟨rfl, by omega⟩
        · have e : rwf (srk (wtm P g) k ++ [k]) j = rwf (srk (wtm P g) k) j := by
            show (srk (wtm P g) k ++ [k]).getD j 0 = (srk (wtm P g) k).getD j 0
            have : j < (srk (wtm P g) k).length := by omega
            simp [List.getElem?_append_left this]
          rw [e, up_n2 z]
          exact w4 j (by omega)
      · have un : srk (wtm P g) (k + 1) = srk (wtm P g) k := if_neg (fun z => q ((wt k).mp z).2)
        rw [if_neg q]
        exact ⟨_, rfl, by rw [un], nI_1 k, w3, by rw [un]; exact w4⟩
    · rintro ⟨x1, x2, T⟩ ⟨w1, w2, w3, w4⟩
      replace w2 : x2 = nI (pN P) := w2
      replace w3 : sm_S S T := w3
      refine ⟨(x1, T), ?_, w1, w3, w4⟩
      show b203_4 x1 x2 T = _
      unfold b203_4
      rw [r_mN (r_sm R w3), w2, if_pos (le_nI (Nat.le_refl _) (by omega))]
  obtain ⟨⟨x1, T⟩, l1, l2, l3, l4⟩ := L
  replace l2 : x1 = _ := l2
  rw [l2] at l1
  exact ⟨T, l1, l3, l4⟩
theorem ofl_st {l : List Nat} {ls : List (List Nat)} {x : Int32} {z : Int32} : ofl P g x (l :: ls) (-1, 0) = ofl P g x (l :: ls) (-9, z) := by
  have bp : pc (hdm P (lfG P g l)) ≤ 18 := pc_le _
  have e : ∀ (o : Int32 × Int32), o.1 = -1 ∨ o.1 = -9 → ost P g x o l = (nI (pc (hdm P (lfG P g l))), lfN x l) := by
    intro o ho
    refine if_neg (fun q => ?_)
    rw [Int32.le_iff_toInt_le, nI_toInt (by omega)] at q
    have h1 : (-1 : Int32).toInt = -1 := by decide
    have h9 : (-9 : Int32).toInt = -9 := by decide
    rcases ho with w | w
    · rw [w, h1] at q
      omega
    · rw [w, h9] at q
      omega
  show ofl P g x ls (ost P g x (-1, 0) l) = ofl P g x ls (ost P g x (-9, z) l)
  rw [e (-1, 0) (.inl rfl), e (-9, z) (.inr rfl)]
theorem c_order (h : in_P S G P) (x : Int32) : ok2 S G (f103 S x) (fun T => f202 T x) := by
  have R := h.2.1
  have hv := h.2.2.1.1
  have h6 := r_N6 R
  obtain ⟨T1, a1, a2⟩ := c103 h x
  have s2 := sm_tr a2 (sm0 (S := T1))
  have e55 : (ov_up T1 42 0 0) 55 = S 55 := funext fun j => s2 55 j rfl
  obtain ⟨T2, b1, b2, b3⟩ := s203_4 (r_sm R s2) hv e55
  have wl := wtm_lt (g := S 55) h6
  have al := allB_t (wtm P (S 55)) wl
  have ln := pmt_len (wtm P (S 55)) wl
  unfold allB at al
  rw [Bool.and_eq_true, Bool.and_eq_true, Bool.and_eq_true, decide_eq_true_eq] at al
  obtain ⟨al1, al2, al3, al4⟩ := al
  have s3 : sm_S T2 (ov_up T2 42 37 (-9)) := sm_up rfl
  have s23 : sm_S S (ov_up T2 42 37 (-9)) := sm_tr s2 (sm_tr b2 s3)
  have e37 : (ov_up T2 42 37 (-9)) 42 37 = -9 := up_eq
  cases hp : pmt 6 (wtm P (S 55)) with
  | nil =>
    rw [hp] at al1
    cases al1
  | cons l ls =>
    rw [hp] at al1 al2 al3 ln a1
    have el : l = srk (wtm P (S 55)) 6 := by simpa using al2
    obtain ⟨T3, c1, c2, c3⟩ := s203_49 (m := wtm P (S 55)) hv (fun k q => (wtm_tb hv h6 k).mp q) al4 ls l 2000 (ov_up T2 42 37 (-9)) al1 al3 (r_sm R s23) (funext fun j => s23 55 j rfl) (fun j hj => by
      rw [up_n1 (by decide), el]
      exact b3 j hj) (by
        have : ls.length + 1 ≤ 720 := ln
        omega)
    rw [e37, ← ofl_st] at c3
    refine o2 h a2 (sm_tr sm0 (sm_tr b2 (sm_tr s3 c2))) _ a1 ?_
    show f202 T1 x = _
    unfold f202 f203
    rw [b1, Option.bind_some]
    dsimp only
    rw [c1, Option.bind_some, Option.bind_some, ← c3]
    by_cases q : x = 0
    · rw [if_pos q, if_pos q]
    · rw [if_neg q, if_neg q]
end
