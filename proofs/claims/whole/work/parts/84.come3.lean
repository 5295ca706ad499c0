-- COMING ON, THE REFERENCE
theorem fr_pu {g : pg_g} {N F k c n : Nat} (h6 : N ≤ 6) (hk : k < N) (h9 : g k = -9) (hc : c < 18) (hn : n < 18) (hne : n ≠ c) : (frm (pu g k (nI c)) N F).testBit n = (frm g N F).testBit n := by
  rw [tb_frm hn, tb_frm hn, Nat.testBit_or, Nat.testBit_or]
  congr 1
  have e1 : stm (pu g k (nI c)) F = stm g F := by
    unfold stm
    apply Nat.eq_of_testBit_eq
    intro i
    rw [tb_mkl, tb_mkl]
    rw [Bool.eq_iff_iff, List.any_eq_true, List.any_eq_true]
    have e : ∀ f, sl (pu g k (nI c)) f = sl g f := fun f => by
      unfold sl
      rw [pu_ne (by omega)]
    simp only [e]
  rw [e1]
  congr 1
  rw [tb_pms, tb_pms, Bool.eq_iff_iff, List.any_eq_true, List.any_eq_true]
  constructor
  · rintro ⟨j, hj, q⟩
    refine ⟨j, hj, ?_⟩
    by_cases e : j = k
    · exfalso
      unfold ps at q
      rw [e, pu_eq, nI_clamp (by omega)] at q
      simp at q
      omega
    · unfold ps at q ⊢
      rw [pu_ne e] at q
      exact q
  · rintro ⟨j, hj, q⟩
    refine ⟨j, hj, ?_⟩
    by_cases e : j = k
    · exfalso
      rw [e, h9] at q
      simp at q
    · unfold ps at q ⊢
      rw [pu_ne e]
      exact q
theorem rr_agree {m m' c : Nat} (hm : m < 2 ^ 18) (hm' : m' < 2 ^ 18) (hc : c < 18) (h : ∀ n, n < 18 → n ≠ c → m.testBit n = m'.testBit n) : ∀ d, rr m c d = rr m' c d
  | 0 => rfl
  | d + 1 => by
    show rr m c d ||| rg m (rr m c d) = rr m' c d ||| rg m' (rr m' c d)
    rw [← rr_agree hm hm' hc h d]
    congr 1
    apply Nat.eq_of_testBit_eq
    intro n
    by_cases hn : n < 18
    · rw [Bool.eq_iff_iff, tb_rg hm (rr_lt hm hc d) hn, tb_rg hm' (rr_lt hm hc d) hn]
      by_cases e : n = c
      · have t : (rr m c d).testBit n = true := rr_up (show 0 ≤ d by omega) (by
          rw [e]
          show (2 ^ c).testBit c = true
          rw [tb_pow]
          exact decide_eq_true rfl)
        rw [t]
        simp
      · rw [h n hn e]
    · rw [tb_out (rg_lt hm) (by omega), tb_out (rg_lt hm') (by omega)]
theorem fdd_agree {m m' c : Nat} (h : ∀ d, rr m c d = rr m' c d) (n : Nat) : ∀ d, fdd m c d n = fdd m' c d n
  | 0 => rfl
  | d + 1 => by
    show (if fdd m c d n = -9 ∧ (rr m c (d + 1)).testBit n = true then nI (d + 1) else fdd m c d n) = (if fdd m' c d n = -9 ∧ (rr m' c (d + 1)).testBit n = true then nI (d + 1) else fdd m' c d n)
    rw [fdd_agree h n d, h (d + 1)]
section
variable {S : ov_S} {P : pl_T} {a : Nat} {g : pg_g} {p : Nat}
theorem pth_pu (h : pl_R S P) {k c n : Nat} (hk : k < pN P) (h9 : g k = -9) (hc : c < 18) (hn : n < 18) (hne : n ≠ c) : (pth P (pu g k (nI c)) k).testBit n = (pth P g k).testBit n := by
  unfold pth
  split
  · rfl
  · exact fr_pu (r_N6 h) hk h9 hc hn hne
theorem seen_pu (h : pl_R S P) (hv : pg_V g (pN P) (pF P)) {k n : Nat} (hk : k < pN P) (h9 : g k = -9) (hn : n < 18) (hv' : pg_V (pu g k (nI n)) (pN P) (pF P)) : seen P (pu g k (nI n)) k = (shn P g).testBit n := by
  have e9 : decide (pu g k (nI n) k ≠ -9) = true := by
    rw [pu_eq]
    exact decide_eq_true (nI_m9 (by omega))
  have pk : ps (pu g k (nI n)) k = n := ps_e hn pu_eq
  unfold seen
  rw [e9, Bool.true_and, pk, tb_shn hn, tb_shn hn]
  have same : ∀ x, x ≠ n → (bdm P (pu g k (nI n)) 63).testBit x = (bdm P g 63).testBit x := by
    intro x hx
    rw [Bool.eq_iff_iff, tb_bdm h hv', tb_bdm h hv]
    constructor
    · rintro ⟨i, i1, i2, i3, i4⟩
      have ik : i ≠ k := by
        intro e
        rw [e, pk] at i4
        exact hx i4.symm
      unfold ps at i4
      rw [pu_ne ik] at i3 i4
      exact ⟨i, i1, i2, i3, i4⟩
    · rintro ⟨i, i1, i2, i3, i4⟩
      have ik : i ≠ k := by
        intro e
        rw [e] at i3
        exact i3 h9
      refine ⟨i, i1, i2, by rw [pu_ne ik]; exact i3, ?_⟩
      unfold ps at i4 ⊢
      rw [pu_ne ik]
      exact i4
  by_cases c6 : 6 ≤ n
  · rw [same (n - 6) (by omega)]
    by_cases c12 : 12 ≤ n
    · rw [same (n - 12) (by omega)]
    · rw [decide_eq_false c12, Bool.false_and, Bool.false_and]
  · have c12 : ¬ 12 ≤ n := by omega
    rw [decide_eq_false c6, decide_eq_false c12, Bool.false_and, Bool.false_and, Bool.false_and, Bool.false_and]
theorem s185 (h : pl_R S P) (hv : pg_V g (pN P) (pF P)) (hm : pg_M S p g) {k d : Nat} (hk : k < pN P) (hd : d < pD P) : f185 p S (nI k) (nI d) = some (if g k = -9 ∧ (frm g (pN P) (pF P)).testBit (dr P d) = true then 1 else 0) := by
  have h6 := r_N6 h
  have h3 := r_D3 h
  have hc := (r_dr h hd).2
  unfold f185
  rw [zadd, ov_ck_t (ib_nI (by rw [hm.1]; omega) (by rw [hm.1]; omega)), nI_clamp (by omega), hm.2 k (by omega)]
  by_cases e : g k = -9
  · rw [if_pos e, ov_ck_t (ib_nI (by omega) (by omega)), nI_clamp (by omega), r_md h hd, s186 h hm hv hc, Option.bind_some]
    cases t : (frm g (pN P) (pF P)).testBit (dr P d)
    · rw [if_c0, if_neg (fun q => Bool.noConfusion q.2)]
    · rw [if_c1, if_pos ⟨e, rfl⟩]
  · rw [if_neg e, if_neg (fun q => e q.1)]
theorem fd_fr (h : pl_R S P) {k c n : Nat} (hc : c < 18) (hn : n < 18) (hf : (frm g (pN P) (pF P)).testBit c = true) (hD : fdd (pth P g k) c 17 n ≠ -9) : (frm g (pN P) (pF P)).testBit n = true := by
  rcases fdd_sp (m := pth P g k) (c := c) (n := n) 17 (by omega) with ⟨h1, h2⟩ | ⟨e, h1, h2, h3, h4⟩
  · exact absurd h1 hD
  · rcases rr_in (pth_lt P g k) hc hn e h3 with q | q
    · rw [q]; exact hf
    · exact pth_fr q
theorem s201 (h : pl_R S P) (hv : pg_V g (pN P) (pF P)) (hm : pg_M S 56 g) {k d : Nat} (hk : k < pN P) (hd : d < pD P) (h9 : g k = -9) (hf : (frm g (pN P) (pF P)).testBit (dr P d) = true) : ∃ S', f201 S (nI k) (nI d) = some (cmd P g k (dr P d), S') ∧ ag [56, 63] S S' ∧ pg_M S' 56 (pu g k (cmb P g k (dr P d)).1) := by
  have h6 := r_N6 h
  have h3 := r_D3 h
  have hc := (r_dr h hd).2
  have hv1 := V_on hv h6 hk hc hf
  have a1 : ag [56] S (ov_up S 56 k (nI (dr P d))) := ag_up (by decide)
  have R1 : pl_R (ov_up S 56 k (nI (dr P d))) P := r_ag h a1 (by decide)
  obtain ⟨S2, t1, t2, t3⟩ := s178 R1 hv1 (M_pu hm) hk hc pu_eq
  have R2 : pl_R S2 P := r_ag R1 t2 (by decide)
  have D : ∀ n, n < 18 → S2 63 n = fdd (pth P g k) (dr P d) 17 n := fun n hn => by
    rw [t3 n hn]
    exact fdd_agree (rr_agree (pth_lt _ _ _) (pth_lt _ _ _) hc (fun n hn ne => pth_pu h hk h9 hc hn ne)) n 17
  have o2 : ∀ j, j < 12 → j ≠ k → S2 56 j = g j := fun j hj ne => by
    rw [t2 56 (by decide), up_n2 ne, hm.2 j hj]
  have mg : ∀ (T : ov_S) (x : Int32), (∀ j, j < 12 → j ≠ k → T 56 j = g j) → pg_M (ov_up T 56 k x) 56 (pu g k x) := fun T x q => ⟨hm.1, fun j hj => by
    rw [up_pu]
    by_cases e : j = k
    · rw [e, pu_eq, pu_eq]
    · rw [pu_ne e, pu_ne e, q j hj e]⟩
  have L : ∃ e, ov_lp (fun s => b201_53 (nI k) s.1 s.2.1 s.2.2.1 s.2.2.2) 2000 (nI (dr P d), (-9 : Int32), (0 : Int32), S2) = some e ∧ (e.1 = (cmb P g k (dr P d)).1 ∧ e.2.1 = (cmb P g k (dr P d)).2 ∧ ag [56] S2 e.2.2 ∧ ∀ j, j < 12 → j ≠ k → e.2.2 56 j = g j) := by
    refine lp_inv (fun (n : Nat) (s : Int32 × Int32 × Int32 × ov_S) => s.1 = (cbs (fun n => (shn P g).testBit n) (fdd (pth P g k) (dr P d) 17) (dr P d) n).1 ∧ s.2.1 = (cbs (fun n => (shn P g).testBit n) (fdd (pth P g k) (dr P d) 17) (dr P d) n).2 ∧ s.2.2.1 = nI n ∧ ag [56] S2 s.2.2.2 ∧ ∀ j, j < 12 → j ≠ k → s.2.2.2 56 j = g j) (fun (e : Int32 × Int32 × ov_S) => e.1 = (cmb P g k (dr P d)).1 ∧ e.2.1 = (cmb P g k (dr P d)).2 ∧ ag [56] S2 e.2.2 ∧ ∀ j, j < 12 → j ≠ k → e.2.2 56 j = g j) 18 ?_ ?_ 0 _ (by omega) ⟨rfl, rfl, rfl, ag_rf, o2⟩ (by omega)
    · rintro n ⟨x3, x4, x5, T⟩ hn ⟨w1, w2, w3, w4, w5⟩
      have w1 : x3 = _ := w1
      have w2 : x4 = _ := w2
      have w3 : x5 = nI n := w3
      have w4 : ag [56] S2 T := w4
      have w5 : ∀ j, j < 12 → j ≠ k → T 56 j = g j := w5
      subst w3
      have mT := mg T (nI n) w5
      have aT : ag [56] S2 (ov_up T 56 k (nI n)) := ag_tr w4 (ag_up (by decide))
      have RT : pl_R (ov_up T 56 k (nI n)) P := r_ag R2 aT (by decide)
      have DT : ov_up T 56 k (nI n) 63 n = fdd (pth P g k) (dr P d) 17 n := by
        rw [aT 63 (by decide), D n hn]
      have oT : ∀ j, j < 12 → j ≠ k → ov_up T 56 k (nI n) 56 j = g j := fun j hj ne => by rw [up_n2 ne]; exact w5 j hj ne
      show ∃ s', b201_53 (nI k) x3 x4 (nI n) T = some (.inl s') ∧ _
      unfold b201_53
      rw [show (18 : Int32) = nI 18 from rfl, if_neg (nle_nI hn (by omega)), zadd, ov_ck_t (ib_nI (by omega) (by omega)), ov_ck_t (ib_nI hn (by omega)), nI_clamp (by omega), nI_clamp (by omega), DT]
      have keep : (cbs (fun n => (shn P g).testBit n) (fdd (pth P g k) (dr P d) 17) (dr P d) (n + 1)) = (cbs (fun n => (shn P g).testBit n) (fdd (pth P g k) (dr P d) 17) (dr P d) n) → ∃ s', f201_125_53 (ov_up T 56 k (nI n)) (nI k) x3 x4 (nI n) = some (.inl s') ∧ s'.1 = (cbs (fun n => (shn P g).testBit n) (fdd (pth P g k) (dr P d) 17) (dr P d) (n + 1)).1 ∧ s'.2.1 = (cbs (fun n => (shn P g).testBit n) (fdd (pth P g k) (dr P d) 17) (dr P d) (n + 1)).2 ∧ s'.2.2.1 = nI (n + 1) ∧ ag [56] S2 s'.2.2.2 ∧ ∀ j, j < 12 → j ≠ k → s'.2.2.2 56 j = g j := fun q => by
        rw [q]
        exact ⟨(x3, x4, nI n + 1, ov_up T 56 k (nI n)), rfl, w1, w2, nI_1 n, aT, oT⟩
      have take : (cbs (fun n => (shn P g).testBit n) (fdd (pth P g k) (dr P d) 17) (dr P d) (n + 1)) = (nI n, fdd (pth P g k) (dr P d) 17 n) → ∃ s', f201_113_53 (ov_up T 56 k (nI n)) (nI k) (nI n) = some (.inl s') ∧ s'.1 = (cbs (fun n => (shn P g).testBit n) (fdd (pth P g k) (dr P d) 17) (dr P d) (n + 1)).1 ∧ s'.2.1 = (cbs (fun n => (shn P g).testBit n) (fdd (pth P g k) (dr P d) 17) (dr P d) (n + 1)).2 ∧ s'.2.2.1 = nI (n + 1) ∧ ag [56] S2 s'.2.2.2 ∧ ∀ j, j < 12 → j ≠ k → s'.2.2.2 56 j = g j := fun q => by
        rw [q]
        unfold f201_113_53
        rw [ov_ck_t (ib_nI hn (by omega)), nI_clamp (by omega), DT]
        exact ⟨(nI n, fdd (pth P g k) (dr P d) 17 n, nI n + 1, ov_up T 56 k (nI n)), rfl, rfl, rfl, nI_1 n, aT, oT⟩
      have un : cbs (fun n => (shn P g).testBit n) (fdd (pth P g k) (dr P d) 17) (dr P d) (n + 1) = (if fdd (pth P g k) (dr P d) 17 n = -9 ∨ (shn P g).testBit n = false then cbs (fun n => (shn P g).testBit n) (fdd (pth P g k) (dr P d) 17) (dr P d) n else if (cbs (fun n => (shn P g).testBit n) (fdd (pth P g k) (dr P d) 17) (dr P d) n).2 = -9 then (nI n, fdd (pth P g k) (dr P d) 17 n) else if (cbs (fun n => (shn P g).testBit n) (fdd (pth P g k) (dr P d) 17) (dr P d) n).2 ≤ fdd (pth P g k) (dr P d) 17 n then cbs (fun n => (shn P g).testBit n) (fdd (pth P g k) (dr P d) 17) (dr P d) n else (nI n, fdd (pth P g k) (dr P d) 17 n)) := rfl
      by_cases e : fdd (pth P g k) (dr P d) 17 n = -9
      · rw [if_pos e]
        exact keep (by rw [un, if_pos (.inl e)])
      · rw [if_neg e]
        have hvn := V_on hv h6 hk hn (fd_fr h hc hn hf e)
        rw [s162 RT hvn mT hk, Option.bind_some, seen_pu h hv hk h9 hn hvn]
        cases t : (shn P g).testBit n
        · rw [if_c0]
          exact keep (by rw [un, if_pos (.inr t)])
        · rw [if_c1]
          have nn : ¬ (fdd (pth P g k) (dr P d) 17 n = -9 ∨ (shn P g).testBit n = false) := by
            rintro (q | q)
            · exact e q
            · rw [t] at q; cases q
          by_cases z : x4 = -9
          · rw [if_pos z]
            exact take (by rw [un, if_neg nn, if_pos (by rw [← w2]; exact z)])
          · rw [if_neg z, ov_ck_t (ib_nI hn (by omega))]
            by_cases y : x4 ≤ fdd (pth P g k) (dr P d) 17 n
            · rw [if_pos y]
              exact keep (by rw [un, if_neg nn, if_neg (by rw [← w2]; exact z), if_pos (by rw [← w2]; exact y)])
            · rw [if_neg y]
              exact take (by rw [un, if_neg nn, if_neg (by rw [← w2]; exact z), if_neg (by rw [← w2]; exact y)])
    · rintro ⟨x3, x4, x5, T⟩ ⟨w1, w2, w3, w4, w5⟩
      have w3 : x5 = nI 18 := w3
      subst w3
      refine ⟨(x3, x4, T), ?_, w1, w2, w4, w5⟩
      show b201_53 (nI k) x3 x4 (nI 18) T = _
      unfold b201_53
      rw [show (18 : Int32) = nI 18 from rfl, if_pos (le_nI (Nat.le_refl _) (by omega))]
  obtain ⟨⟨x3, x4, T⟩, l1, l2, l3, l4, l5⟩ := L
  have l2 : x3 = _ := l2
  have l3 : x4 = _ := l3
  unfold f201
  rw [s185 h hv hm hk hd, Option.bind_some, show (if g k = -9 ∧ (frm g (pN P) (pF P)).testBit (dr P d) = true then (1 : Int32) else 0) = 1 from if_pos ⟨h9, hf⟩, if_neg (by decide), ov_ck_t (ib_nI (by omega) (by omega)), zadd, ov_ck_t (ib_nI (by omega) (by omega)), nI_clamp (by omega), nI_clamp (by omega), r_md h hd, t1, Option.bind_some, ov_ck_t (ib_nI (by omega) (by omega)), r_md R2 hd, l1, Option.bind_some, ov_ck_t (ib_nI (by omega) (by omega))]
  have aa : ag [56, 63] S (ov_up T 56 k x3) := ag_tr (ag_mo a1 (by decide)) (ag_tr (ag_mo t2 (by decide)) (ag_tr (ag_mo l4 (by decide)) (ag_up (by decide))))
  refine ⟨ov_up T 56 k x3, ?_, aa, by rw [← l2]; exact mg T x3 l5⟩
  unfold cmd
  rw [← l3]
  by_cases z : x4 = -9
  · rw [if_pos z, if_pos z]
  · rw [if_neg z, if_neg z]
theorem s201n (h : pl_R S P) (hv : pg_V g (pN P) (pF P)) (hm : pg_M S 56 g) {k d : Nat} (hk : k < pN P) (hd : d < pD P) (hf : (frm g (pN P) (pF P)).testBit (dr P d) = false) : f201 S (nI k) (nI d) = some (-9, S) := by
  unfold f201
  rw [s185 h hv hm hk hd, Option.bind_some, show (if g k = -9 ∧ (frm g (pN P) (pF P)).testBit (dr P d) = true then (1 : Int32) else 0) = 0 from if_neg (fun q => by rw [hf] at q; exact Bool.noConfusion q.2), if_pos rfl]
end
