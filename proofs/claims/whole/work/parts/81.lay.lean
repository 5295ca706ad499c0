-- THE REFERENCE LAYS WAYS
theorem up_63 {S : ov_S} {k n : Nat} {x : Int32} : ov_up S 63 k x 63 n = if n = k then x else S 63 n := by
  rw [up_pu]
  rfl
section
variable {S : ov_S}
/-- one cell's four ways -/
theorem lay_w {T : ov_S} {F : Nat → Int32} {t m d c : Nat} {W : Nat → Bool} (ht : t < 2 ^ 18) (hmt : ∀ n, n < 18 → m.testBit n = !t.testBit n) (hd : d < 18) (hc : c < 18) (hF : F c = nI d) (hT : ∀ n, n < 18 → T 63 n = wst F m d W n) : ∃ T', ov_lp (fun s => b179_50 (nI t) (nI d) (nI c) s.1 s.2) 2000 ((0 : Int32), T) = some T' ∧ ag [63] T T' ∧ ∀ n, n < 18 → T' 63 n = wst F m d (fun n => W n || adj c n) n := by
  have fc : ∀ W' : Nat → Bool, wst F m d W' c = nI d := fun W' => by
    unfold wst
    rw [if_neg (fun q => nI_m9 (show d < 2 ^ 31 by omega) (hF ▸ q.1)), hF]
  refine lp_inv (fun w s => s.1 = nI w ∧ ag [63] T s.2 ∧ ∀ n, n < 18 → s.2 63 n = wst F m d (wnx c W w) n) (fun T' => ag [63] T T' ∧ ∀ n, n < 18 → T' 63 n = wst F m d (fun n => W n || adj c n) n) 4 ?_ ?_ 0 _ (by omega) ⟨rfl, ag_rf, hT⟩ (by omega)
  · rintro w ⟨x, R⟩ hw ⟨rfl, h2, h3⟩
    have h3 : ∀ n, n < 18 → R 63 n = wst F m d (wnx c W w) n := h3
    obtain ⟨n1, n2⟩ := nx_180 c hc w hw
    show ∃ s', b179_50 (nI t) (nI d) (nI c) (nI w) R = some (.inl s') ∧ _
    unfold b179_50
    rw [show (4 : Int32) = nI 4 from rfl, if_neg (nle_nI hw (by omega)), ov_ck_t (ib_nI hc (by omega)), nI_clamp (by omega), h3 c hc, fc, if_pos rfl, n1, Option.bind_some]
    have same : (∀ n, n < 18 → wst F m d (wnx c W (w + 1)) n = wst F m d (wnx c W w) n) → ∃ s', f179_114_50 R (nI t) (nI d) (nI c) (nI w) = some (.inl s') ∧ s'.1 = nI (w + 1) ∧ ag [63] T s'.2 ∧ ∀ n, n < 18 → s'.2 63 n = wst F m d (wnx c W (w + 1)) n := fun q => ⟨(nI w + 1, R), rfl, nI_1 w, h2, fun n hn => (h3 n hn).trans (q n hn).symm⟩
    by_cases e : nxc c w = -9
    · rw [if_pos e]
      refine same fun n hn => ?_
      have : wnx c W (w + 1) n = wnx c W w n := by
        show (wnx c W w n || decide (nxc c w = nI n)) = _
        rw [e, decide_eq_false (fun q => nI_m9 (show n < 2 ^ 31 by omega) q.symm), Bool.or_false]
      unfold wst
      rw [this]
    · rw [if_neg e]
      rcases n2 with q | ⟨k1, k2⟩
      · exact absurd q e
      · generalize (nxc c w).toNatClampNeg = z at k1 k2
        have wn : ∀ n, n < 18 → wnx c W (w + 1) n = (wnx c W w n || decide (n = z)) := fun n hn => by
          show (wnx c W w n || decide (nxc c w = nI n)) = _
          rw [k2]
          congr 1
          apply decide_eq_decide.mpr
          rw [nI_eq (by omega) (by omega)]
          exact eq_comm
        rw [k2, ov_ck_t (ib_nI k1 (by omega)), h3 z k1]
        by_cases f9 : wst F m d (wnx c W w) z = -9
        · have F9 : F z = -9 := by
            unfold wst at f9
            by_cases q : F z = -9 ∧ m.testBit z = true ∧ wnx c W w z = true
            · exact q.1
            · rw [if_neg q] at f9; exact f9
          rw [if_pos f9, s152 (by omega) (by omega), Option.bind_some]
          cases tz : t.testBit z
          · rw [if_c0, ov_ck_t (ib_nI k1 (by omega))]
            refine ⟨(nI w + 1, ov_up R 63 z (nI d + 1)), rfl, nI_1 w, ag_tr h2 (ag_up (by decide)), fun n hn => ?_⟩
            show ov_up R 63 z (nI d + 1) 63 n = _
            rw [up_63]
            by_cases nz : n = z
            · rw [if_pos nz, nz, nI_1]
              unfold wst
              rw [if_pos ⟨F9, by rw [hmt z k1, tz]; rfl, by rw [wn z k1]; simp⟩]
            · rw [if_neg nz, h3 n hn]
              unfold wst
              rw [wn n hn, decide_eq_false nz, Bool.or_false]
          · rw [if_c1]
            refine same fun n hn => ?_
            unfold wst
            rw [wn n hn]
            by_cases nz : n = z
            · rw [nz, hmt z k1, tz]
              simp
            · rw [decide_eq_false nz, Bool.or_false]
        · rw [if_neg f9]
          refine same fun n hn => ?_
          unfold wst
          rw [wn n hn]
          by_cases nz : n = z
          · rw [nz]
            by_cases F9 : F z = -9
            · unfold wst at f9
              by_cases q : F z = -9 ∧ m.testBit z = true ∧ wnx c W w z = true
              · rw [q.2.2, Bool.true_or]
              · rw [if_neg q] at f9
                exact absurd F9 f9
            · rw [if_neg (fun q => F9 q.1), if_neg (fun q => F9 q.1)]
          · rw [decide_eq_false nz, Bool.or_false]
  · rintro ⟨x, R⟩ ⟨rfl, h2, h3⟩
    refine ⟨R, ?_, h2, fun n hn => ?_⟩
    · show b179_50 (nI t) (nI d) (nI c) (nI 4) R = _
      unfold b179_50
      rw [show (4 : Int32) = nI 4 from rfl, if_pos (le_nI (Nat.le_refl _) (by omega))]
    · have h3 : R 63 n = wst F m d (wnx c W 4) n := h3 n hn
      rw [h3]
      unfold wst
      rw [wnx_4]
/-- one round -/
theorem lay_r {T : ov_S} {F : Nat → Int32} {t m d : Nat} (ht : t < 2 ^ 18) (hmt : ∀ n, n < 18 → m.testBit n = !t.testBit n) (hd : d < 18) (hF : ∀ n, n < 18 → F n = -9 ∨ ∃ e, e ≤ d ∧ F n = nI e) (hT : ∀ n, n < 18 → T 63 n = F n) : ∃ T', ov_lp (fun s => b179_40 (nI t) (nI d) s.1 s.2) 2000 ((0 : Int32), T) = some T' ∧ ag [63] T T' ∧ ∀ n, n < 18 → T' 63 n = wst F m d (wcl F d 18) n := by
  refine lp_inv (fun c s => s.1 = nI c ∧ ag [63] T s.2 ∧ ∀ n, n < 18 → s.2 63 n = wst F m d (wcl F d c) n) (fun T' => ag [63] T T' ∧ ∀ n, n < 18 → T' 63 n = wst F m d (wcl F d 18) n) 18 ?_ ?_ 0 _ (by omega) ⟨rfl, ag_rf, fun n hn => ?_⟩ (by omega)
  · rintro c ⟨x, R⟩ hc ⟨rfl, h2, h3⟩
    have h3 : ∀ n, n < 18 → R 63 n = wst F m d (wcl F d c) n := h3
    show ∃ s', b179_40 (nI t) (nI d) (nI c) R = some (.inl s') ∧ _
    unfold b179_40
    rw [show (18 : Int32) = nI 18 from rfl, if_neg (nle_nI hc (by omega))]
    by_cases e : F c = nI d
    · obtain ⟨R', r1, r2, r3⟩ := lay_w (W := wcl F d c) ht hmt hd hc e h3
      rw [r1, Option.bind_some]
      refine ⟨(nI c + 1, R'), rfl, nI_1 c, ag_tr h2 r2, fun n hn => ?_⟩
      show R' 63 n = _
      rw [r3 n hn]
      unfold wst
      have : wcl F d (c + 1) n = (wcl F d c n || adj c n) := by
        show (wcl F d c n || (decide (F c = nI d) && adj c n)) = _
        rw [decide_eq_true e, Bool.true_and]
      rw [this]
    · have ne : ¬ wst F m d (wcl F d c) c = nI d := by
        unfold wst
        split
        · exact nI_ne (by omega) (by omega) (by omega)
        · exact e
      have one : ov_lp (fun s => b179_50 (nI t) (nI d) (nI c) s.1 s.2) 2000 ((0 : Int32), R) = some R := by
        apply lp_stop (N := 1999)
        show b179_50 (nI t) (nI d) (nI c) 0 R = _
        unfold b179_50
        rw [if_neg (by decide), ov_ck_t (ib_nI hc (by omega)), nI_clamp (by omega), h3 c hc, if_neg ne]
      rw [one, Option.bind_some]
      refine ⟨(nI c + 1, R), rfl, nI_1 c, h2, fun n hn => ?_⟩
      show R 63 n = _
      rw [h3 n hn]
      unfold wst
      have : wcl F d (c + 1) n = wcl F d c n := by
        show (wcl F d c n || (decide (F c = nI d) && adj c n)) = _
        rw [decide_eq_false e, Bool.false_and, Bool.or_false]
      rw [this]
  · rintro ⟨x, R⟩ ⟨rfl, h2, h3⟩
    refine ⟨R, ?_, h2, h3⟩
    show b179_40 (nI t) (nI d) (nI 18) R = _
    unfold b179_40
    rw [show (18 : Int32) = nI 18 from rfl, if_pos (le_nI (Nat.le_refl _) (by omega))]
  · show T 63 n = _
    rw [hT n hn]
    unfold wst wcl
    rw [if_neg (fun q => Bool.noConfusion q.2.2)]
theorem s179 {c t m : Nat} (hc : c < 18) (ht : t < 2 ^ 18) (hm : m < 2 ^ 18) (hmt : ∀ n, n < 18 → m.testBit n = !t.testBit n) : ∃ S', f179 S (nI c) (nI t) = some S' ∧ ag [63] S S' ∧ ∀ n, n < 18 → S' 63 n = fdd m c 17 n := by
  have fill : ∃ T, ov_lp (fun s => b179_2 (nI c) (nI t) s.1 s.2) 2000 ((0 : Int32), S) = some T ∧ ag [63] S T ∧ ∀ n, n < 18 → T 63 n = -9 := by
    refine lp_inv (fun k s => s.1 = nI k ∧ ag [63] S s.2 ∧ ∀ n, n < k → s.2 63 n = -9) (fun T => ag [63] S T ∧ ∀ n, n < 18 → T 63 n = -9) 18 ?_ ?_ 0 _ (by omega) ⟨rfl, ag_rf, fun n hn => absurd hn (Nat.not_lt_zero _)⟩ (by omega)
    · rintro k ⟨x, R⟩ hk ⟨rfl, h2, h3⟩
      refine ⟨(nI k + 1, ov_up R 63 k (-9)), ?_, nI_1 k, ag_tr h2 (ag_up (by decide)), fun n hn => ?_⟩
      · show b179_2 (nI c) (nI t) (nI k) R = _
        unfold b179_2
        rw [show (18 : Int32) = nI 18 from rfl, if_neg (nle_nI hk (by omega)), ov_ck_t (ib_nI hk (by omega)), nI_clamp (by omega)]
      · show ov_up R 63 k (-9) 63 n = -9
        rw [up_63]
        by_cases q : n = k
        · rw [if_pos q]
        · rw [if_neg q]
          exact h3 n (by omega)
    · rintro ⟨x, R⟩ ⟨rfl, h2, h3⟩
      refine ⟨R, ?_, h2, h3⟩
      show b179_2 (nI c) (nI t) (nI 18) R = _
      unfold b179_2
      rw [show (18 : Int32) = nI 18 from rfl, if_pos (le_nI (Nat.le_refl _) (by omega))]
  obtain ⟨T, t1, t2, t3⟩ := fill
  have rounds : ∃ T', ov_lp (fun s => b179_31 (nI t) s.1 s.2) 2000 ((0 : Int32), ov_up T 63 c 0) = some T' ∧ ag [63] S T' ∧ ∀ n, n < 18 → T' 63 n = fdd m c 17 n := by
    refine lp_inv (fun d s => s.1 = nI d ∧ ag [63] S s.2 ∧ ∀ n, n < 18 → s.2 63 n = fdd m c d n) (fun T => ag [63] S T ∧ ∀ n, n < 18 → T 63 n = fdd m c 17 n) 18 ?_ ?_ 0 _ (by omega) ⟨rfl, ag_tr t2 (ag_up (by decide)), fun n hn => ?_⟩ (by omega)
    · rintro d ⟨x, R⟩ hd ⟨rfl, h2, h3⟩
      have sp : ∀ n, n < 18 → fdd m c d n = -9 ∨ ∃ e, e ≤ d ∧ fdd m c d n = nI e := fun n hn => by
        rcases fdd_sp (m := m) (c := c) (n := n) d (by omega) with ⟨h1, h2⟩ | ⟨e, h1, h2, h3, h4⟩
        · exact .inl h1
        · exact .inr ⟨e, h1, h2⟩
      obtain ⟨R', r1, r2, r3⟩ := lay_r ht hmt hd sp h3
      refine ⟨(nI d + 1, R'), ?_, nI_1 d, ag_tr h2 r2, fun n hn => ?_⟩
      · show b179_31 (nI t) (nI d) R = _
        unfold b179_31
        rw [show (18 : Int32) = nI 18 from rfl, if_neg (nle_nI hd (by omega)), r1, Option.bind_some]
      · show R' 63 n = _
        rw [r3 n hn, wst_end hm hc hd hn]
    · rintro ⟨x, R⟩ ⟨rfl, h2, h3⟩
      refine ⟨R, ?_, h2, fun n hn => ?_⟩
      · show b179_31 (nI t) (nI 18) R = _
        unfold b179_31
        rw [show (18 : Int32) = nI 18 from rfl, if_pos (le_nI (Nat.le_refl _) (by omega))]
      · have h3 : R 63 n = fdd m c 18 n := h3 n hn
        rw [h3, fdd_17 hm hc]
    · show ov_up T 63 c 0 63 n = _
      rw [up_63, t3 n hn]
      rfl
  obtain ⟨T', w1, w2, w3⟩ := rounds
  refine ⟨T', ?_, w2, w3⟩
  unfold f179
  rw [t1, Option.bind_some, ov_ck_t (ib_nI hc (by omega)), nI_clamp (by omega), w1, Option.bind_some]
end
