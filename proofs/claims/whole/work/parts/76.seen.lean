-- SEEN, LOADS, WHO SEES WHOM
def shn (P : pl_T) (g : pg_g) : Nat := cm 262143 (bdm P g 63 * 2 ^ 6 ||| bdm P g 63 * 2 ^ 12)
def seen (P : pl_T) (g : pg_g) (k : Nat) : Bool := decide (g k ≠ -9) && (shn P g).testBit (ps g k)
def snm (P : pl_T) (g : pg_g) : Nat := mk (pN P) (seen P g)
def okk (P : pl_T) (g : pg_g) (k i : Nat) : Bool := decide (i = k) || decide (g i = -9) || decide (kd P i = 2) || !decide (ps g i % 6 = ps g k % 6) || !decide (ps g i ≤ ps g k)
def okn (P : pl_T) (g : pg_g) (k : Nat) : Nat → Bool
  | 0 => decide (g k ≠ -9)
  | n + 1 => okn P g k n && okk P g k n
theorem shn_lt (P : pl_T) (g : pg_g) : shn P g < 2 ^ 18 := cm_lt (by decide)
theorem nI_m6 {c : Nat} (hc : c < 2 ^ 31) : nI c - nI c / (6 : Int32) * (6 : Int32) = nI (c % 6) := pk_rem (d := 6) hc (by omega) (by omega)
section
variable {S : ov_S} {P : pl_T} {a : Nat} {g : pg_g} {p : Nat}
theorem s37 (h : pl_R S P) (hv : pg_V g (pN P) (pF P)) (he : pg_E S a g (pF P)) : f37 a S = some (nI (shn P g)) := by
  have b := bdm_lt hv 63
  unfold f37 shn
  rw [show (63 : Int32) = nI 63 from rfl, s38 h hv he (by omega), Option.bind_some, pk_shlN _ 6 (by decide) (by omega), pk_shlN _ 12 (by decide) (by omega), nI_or, show (262143 : Int32) = nI 262143 from rfl, nI_cm]
theorem tb_shn {c : Nat} (hc : c < 18) : (shn P g).testBit c = !((decide (6 ≤ c) && (bdm P g 63).testBit (c - 6)) || (decide (12 ≤ c) && (bdm P g 63).testBit (c - 12))) := by
  unfold shn
  rw [tb_cm (by decide), tb_all c hc, Bool.true_and, Nat.testBit_or, Nat.testBit_mul_two_pow, Nat.testBit_mul_two_pow]
theorem s36 (h : pl_R S P) (hv : pg_V g (pN P) (pF P)) (he : pg_E S a g (pF P)) : f36 a S = some (nI (snm P g)) := by
  have h6 := r_N6 h
  have b := shn_lt P g
  unfold f36
  rw [s37 h hv he, Option.bind_some]
  refine lp_mask (body := b36_9 a S (nI (shn P g))) (n := pN P) (seen P g) (by omega) (fun k m hk hm => ?_) (fun m hm => ?_) rfl
  · unfold b36_9 seen
    rw [r_cN h, if_neg (nle_nI hk (by omega)), s35 h he hk, Option.bind_some]
    rcases hv.1 k (by omega) with e | ⟨c, hc, e⟩
    · rw [e, s23n, Option.bind_some, if_pos rfl]
      exact or_f (by rfl)
    · rw [ps_e hc e, e, s23 (by omega) (by omega), Option.bind_some]
      cases t : (shn P g).testBit c
      · rw [if_c0]
        exact or_f (by rw [Bool.and_false])
      · rw [if_c1, s27 (by omega), Option.bind_some]
        exact or_t (by rw [Bool.and_true]; exact decide_eq_true (nI_m9 (by omega)))
  · unfold b36_9
    rw [r_cN h, if_pos (le_nI (Nat.le_refl _) (by omega))]
theorem tb_bdm (h : pl_R S P) (hv : pg_V g (pN P) (pF P)) (x : Nat) : (bdm P g 63).testBit x = true ↔ ∃ i, i < pN P ∧ kd P i ≠ 2 ∧ g i ≠ -9 ∧ ps g i = x := by
  have h6 := r_N6 h
  unfold bdm
  rw [tb_pms, List.any_eq_true]
  constructor
  · rintro ⟨i, hi, q⟩
    have hi := List.mem_range.mp hi
    simp only [Bool.and_eq_true, decide_eq_true_eq] at q
    by_cases hn : i < pN P
    · have := q.1.1
      rw [gm_tb h hn, decide_eq_true_eq] at this
      exact ⟨i, hn, this, q.1.2, q.2⟩
    · exact absurd (hv.2.1 i (by omega) hi) q.1.2
  · rintro ⟨i, hi, q1, q2, q3⟩
    exact ⟨i, List.mem_range.mpr (by omega), by rw [gm_tb h hi]; simp [q1, q2, q3]⟩
theorem okn_all {k n : Nat} : okn P g k n = true ↔ g k ≠ -9 ∧ ∀ i, i < n → okk P g k i = true := by
  induction n with
  | zero =>
    unfold okn
    rw [decide_eq_true_eq]
    exact ⟨fun q => ⟨q, fun i hi => absurd hi (Nat.not_lt_zero i)⟩, fun q => q.1⟩
  | succ n ih =>
    unfold okn
    rw [Bool.and_eq_true, ih]
    constructor
    · rintro ⟨⟨q1, q2⟩, q3⟩
      refine ⟨q1, fun i hi => ?_⟩
      by_cases e : i = n
      · rw [e]; exact q3
      · exact q2 i (by omega)
    · rintro ⟨q1, q2⟩
      exact ⟨⟨q1, fun i hi => q2 i (by omega)⟩, q2 n (by omega)⟩
theorem seen_ok (h : pl_R S P) (hv : pg_V g (pN P) (pF P)) {k : Nat} (hk : k < pN P) : okn P g k (pN P) = seen P g k := by
  have h6 := r_N6 h
  rw [Bool.eq_iff_iff, okn_all]
  unfold seen
  rw [Bool.and_eq_true, decide_eq_true_eq]
  refine and_congr_right fun k9 => ?_
  rcases hv.1 k (by omega) with e | ⟨c, hc, e⟩
  · exact absurd e k9
  · have pk := ps_e hc e
    rw [pk, tb_shn hc]
    constructor
    · intro q
      have no : ∀ x, x < c → x % 6 = c % 6 → (bdm P g 63).testBit x = false := by
        intro x hx hx6
        cases t : (bdm P g 63).testBit x
        · rfl
        · obtain ⟨i, hi, i1, i2, i3⟩ := (tb_bdm h hv x).mp t
          have := q i hi
          unfold okk at this
          have ik : i ≠ k := by intro w; rw [w, pk] at i3; omega
          rw [i3, pk] at this
          simp [ik, i1, i2, hx6] at this
          omega
      by_cases c6 : 6 ≤ c
      · rw [no (c - 6) (by omega) (by omega)]
        by_cases c12 : 12 ≤ c
        · rw [no (c - 12) (by omega) (by omega)]
          simp
        · simp [c12]
      · have c12 : ¬ 12 ≤ c := by omega
        simp [c6, c12]
    · intro q i hi
      cases t : okk P g k i
      · exfalso
        unfold okk at t
        rw [pk] at t
        simp only [Bool.or_eq_false_iff, decide_eq_false_iff_not, Bool.not_eq_false', decide_eq_true_eq] at t
        obtain ⟨⟨⟨⟨t1, t2⟩, t3⟩, t4⟩, t5⟩ := t
        rcases hv.1 i (by omega) with e' | ⟨d, hd, e'⟩
        · exact t2 e'
        · have pi := ps_e hd e'
          rw [pi] at t4 t5
          have dc : d ≠ c := by
            intro w
            exact t2 (hv.2.2.2.2.1 i k (by omega) (by omega) t1 (by rw [e, e', w]))
          have bd : (bdm P g 63).testBit d = true := (tb_bdm h hv d).mpr ⟨i, hi, t3, t2, pi⟩
          have : d = c - 6 ∧ 6 ≤ c ∨ d = c - 12 ∧ 12 ≤ c := by omega
          rcases this with ⟨w1, w2⟩ | ⟨w1, w2⟩
          · rw [← w1, bd, decide_eq_true w2] at q
            cases q
          · rw [← w1, bd, decide_eq_true w2, Bool.and_true, Bool.or_true] at q
            cases q
      · rfl
theorem s162 (h : pl_R S P) (hv : pg_V g (pN P) (pF P)) (hm : pg_M S p g) {k : Nat} (hk : k < pN P) : f162 p S (nI k) = some (if seen P g k then 1 else 0) := by
  have h6 := r_N6 h
  have L : f162_17 p S (nI k) (g k) (if okn P g k 0 then 1 else 0) = some (if seen P g k then 1 else 0) := by
    unfold f162_17
    refine lp_bind (fun j => ((if okn P g k j then (1 : Int32) else 0), nI j)) (pN P) (e := if okn P g k (pN P) then (1 : Int32) else 0) rfl (fun j hj => ?_) ?_ (by omega) ?_
    · show b162_22 p S (nI k) (g k) (if okn P g k j then 1 else 0) (nI j) = some (.inl ((if (okn P g k j && okk P g k j) then (1 : Int32) else 0), nI (j + 1)))
      unfold b162_22
      rw [r_mN h, if_neg (nle_nI hj (by omega)), zadd, ov_ck_t (ib_nI (by rw [hm.1]; omega) (by rw [hm.1]; omega)), nI_clamp (by omega), hm.2 j (by omega)]
      cases q : okn P g k j
      · rw [if_c0, Bool.false_and]
        show some (Sum.inl (0, nI j + 1)) = _
        rw [nI_1]
        rfl
      · have k9 := (okn_all.mp q).1
        rw [if_c1, Bool.true_and]
        unfold okk
        have kq := r_kd h hj
        by_cases jk : j = k
        · rw [if_pos (by rw [jk]), decide_eq_true jk]
          show some (Sum.inl (1, nI j + 1)) = _
          rw [nI_1]
          rfl
        · rw [if_neg (nI_ne jk (by omega) (by omega)), decide_eq_false jk]
          rcases hv.1 j (by omega) with e | ⟨d, hd, e⟩
          · rw [if_pos e, decide_eq_true e]
            show some (Sum.inl (1, nI j + 1)) = _
            rw [nI_1]
            rfl
          · have e9 : ¬ g j = -9 := by rw [e]; exact nI_m9 (by omega)
            rw [if_neg e9, ov_ck_t (ib_nI (by omega) (by omega)), r_mk h hj, decide_eq_false e9, ps_e hd e, e]
            rcases hv.1 k (by omega) with w | ⟨c, hc, w⟩
            · exact absurd w k9
            · rw [ps_e hc w, w]
              by_cases g2 : kd P j = 2
              · rw [if_pos (show nI (kd P j) = 2 by rw [g2]; rfl), decide_eq_true g2]
                show some (Sum.inl (1, nI j + 1)) = _
                rw [nI_1]
                rfl
              · rw [if_neg (show ¬ nI (kd P j) = 2 from nI_ne (b := 2) g2 (by omega) (by omega)), decide_eq_false g2, nI_m6 (by omega), nI_m6 (by omega)]
                by_cases t : d % 6 = c % 6
                · rw [if_pos (by rw [t]), decide_eq_true t]
                  by_cases u : d ≤ c
                  · rw [if_pos (le_nI u (by omega)), decide_eq_true u]
                    show some (Sum.inl (0, nI j + 1)) = _
                    rw [nI_1]
                    rfl
                  · rw [if_neg (nle_nI (by omega) (by omega)), decide_eq_false u]
                    show some (Sum.inl (1, nI j + 1)) = _
                    rw [nI_1]
                    rfl
                · rw [if_neg (nI_ne t (by omega) (by omega)), decide_eq_false t]
                  show some (Sum.inl (1, nI j + 1)) = _
                  rw [nI_1]
                  rfl
    · show b162_22 p S (nI k) (g k) (if okn P g k (pN P) then 1 else 0) (nI (pN P)) = _
      unfold b162_22
      rw [r_mN h, if_pos (le_nI (Nat.le_refl _) (by omega))]
    · rw [seen_ok h hv hk]
      cases seen P g k <;> rfl
  unfold f162
  rw [zadd, ov_ck_t (ib_nI (by rw [hm.1]; omega) (by rw [hm.1]; omega)), nI_clamp (by omega), hm.2 k (by omega)]
  by_cases e : g k = -9
  · rw [if_pos e, ← L]
    unfold okn
    rw [show decide (g k ≠ -9) = false from decide_eq_false (fun q => q e)]
    rfl
  · rw [if_neg e, ← L]
    unfold okn
    rw [show decide (g k ≠ -9) = true from decide_eq_true e]
    rfl
theorem s161 (h : pl_R S P) (hv : pg_V g (pN P) (pF P)) (hm : pg_M S p g) : f161 p S = some (nI (snm P g)) := by
  have h6 := r_N6 h
  unfold f161
  refine lp_mask (body := b161_4 p S) (n := pN P) (seen P g) (by omega) (fun k m hk hmm => ?_) (fun m hmm => ?_) rfl
  · unfold b161_4
    rw [r_mN h, if_neg (nle_nI hk (by omega)), s162 h hv hm hk, Option.bind_some]
    cases t : seen P g k
    · exact or_f0 rfl
    · exact or_t1 (by omega) rfl
  · unfold b161_4
    rw [r_mN h, if_pos (le_nI (Nat.le_refl _) (by omega))]
-- loads
def ldw (P : pl_T) (k : Nat) : Nat := wt P k + (if kd P k = 3 then 2 else 0)
def ldn (P : pl_T) (g : pg_g) (x : Nat) : Nat → Nat
  | 0 => 0
  | k + 1 => ldn P g x k + (if g k ≠ -9 ∧ ps g k % 6 = x then ldw P k else 0)
theorem ldn_le (h : pl_R S P) (x : Nat) : ∀ k, k ≤ pN P → ldn P g x k ≤ 11 * k
  | 0, _ => Nat.le_refl _
  | k + 1, hk => by
    have := ldn_le h x k (by omega)
    have w := r_wt h (k := k) (by omega)
    unfold ldn ldw
    split <;> (try split) <;> omega
theorem s72 (h : pl_R S P) (hv : pg_V g (pN P) (pF P)) (he : pg_E S a g (pF P)) {x : Nat} (hx : x < 6) : f72 a S (nI x) = some (nI (ldn P g x (pN P))) := by
  have h6 := r_N6 h
  unfold f72
  refine lp_bind (fun k => (nI (ldn P g x k), nI k)) (pN P) (e := nI (ldn P g x (pN P))) rfl (fun k hk => ?_) ?_ (by omega) rfl
  · show b72_4 a S (nI x) (nI (ldn P g x k)) (nI k) = some (.inl (nI (ldn P g x k + (if g k ≠ -9 ∧ ps g k % 6 = x then ldw P k else 0)), nI (k + 1)))
    have kq := r_kd h hk
    unfold b72_4
    rw [r_cN h, if_neg (nle_nI hk (by omega)), s34 h he hk, Option.bind_some]
    rcases hv.1 k (by omega) with e | ⟨c, hc, e⟩
    · rw [if_pos e, if_pos rfl, if_neg (fun q => q.1 e)]
      show some (Sum.inl (nI _, nI k + 1)) = _
      rw [nI_1]
      rfl
    · have e9 : ¬ g k = -9 := by rw [e]; exact nI_m9 (by omega)
      rw [if_neg e9, if_neg (by decide), s35 h he hk, Option.bind_some, ps_e hc e, e, nI_m6 (by omega)]
      by_cases t : c % 6 = x
      · rw [if_pos (by rw [t]), if_pos ⟨nI_m9 (by omega), t⟩, s63 h hk, Option.bind_some, s64 h hk, Option.bind_some]
        unfold ldw
        by_cases u : kd P k = 3
        · rw [if_pos (show nI (kd P k) = 3 by rw [u]; rfl), if_pos u]
          show some (Sum.inl (nI _ + (nI (wt P k) + nI 2), nI k + 1)) = _
          rw [nI_1, nI_add, nI_add]
        · rw [if_neg (show ¬ nI (kd P k) = 3 from nI_ne (b := 3) u (by omega) (by omega)), if_neg u]
          show some (Sum.inl (nI _ + (nI (wt P k) + nI 0), nI k + 1)) = _
          rw [nI_1, nI_add, nI_add]
      · rw [if_neg (nI_ne t (by omega) (by omega)), if_neg (fun q => t q.2)]
        show some (Sum.inl (nI _, nI k + 1)) = _
        rw [nI_1]
        rfl
  · show b72_4 a S (nI x) (nI (ldn P g x (pN P))) (nI (pN P)) = _
    unfold b72_4
    rw [r_cN h, if_pos (le_nI (Nat.le_refl _) (by omega))]
theorem s183 (h : pl_R S P) (hv : pg_V g (pN P) (pF P)) (hm : pg_M S p g) {x : Nat} (hx : x < 6) : f183 p S (nI x) = some (nI (ldn P g x (pN P))) := by
  have h6 := r_N6 h
  unfold f183
  refine lp_bind (fun k => (nI (ldn P g x k), nI k)) (pN P) (e := nI (ldn P g x (pN P))) rfl (fun k hk => ?_) ?_ (by omega) rfl
  · show b183_5 p S (nI x) (nI (ldn P g x k)) (nI k) = some (.inl (nI (ldn P g x k + (if g k ≠ -9 ∧ ps g k % 6 = x then ldw P k else 0)), nI (k + 1)))
    have kq := r_kd h hk
    unfold b183_5
    rw [r_mN h, if_neg (nle_nI hk (by omega)), zadd, ov_ck_t (ib_nI (by rw [hm.1]; omega) (by rw [hm.1]; omega)), nI_clamp (by omega), hm.2 k (by omega)]
    rcases hv.1 k (by omega) with e | ⟨c, hc, e⟩
    · rw [if_pos e, if_neg (fun q => q.1 e)]
      show some (Sum.inl (nI _ + nI 0, nI k + 1)) = _
      rw [nI_1, nI_add]
    · have e9 : ¬ g k = -9 := by rw [e]; exact nI_m9 (by omega)
      rw [if_neg e9, ov_ck_t (ib_nI (by rw [hm.1]; omega) (by rw [hm.1]; omega)), ps_e hc e, e, nI_m6 (by omega)]
      by_cases t : c % 6 = x
      · rw [if_pos (by rw [t]), if_pos ⟨nI_m9 (by omega), t⟩]
        unfold f183_43_5
        rw [if_neg (by decide), ov_ck_t (ib_nI (by omega) (by omega)), ov_ck_t (ib_nI (by omega) (by omega)), nI_clamp (by omega), r_mk h hk, r_mw h hk]
        unfold ldw
        by_cases u : kd P k = 3
        · rw [if_pos (show nI (kd P k) = 3 by rw [u]; rfl), if_pos u]
          show some (Sum.inl (nI _ + (nI (wt P k) + nI 2), nI k + 1)) = _
          rw [nI_1, nI_add, nI_add]
        · rw [if_neg (show ¬ nI (kd P k) = 3 from nI_ne (b := 3) u (by omega) (by omega)), if_neg u]
          show some (Sum.inl (nI _ + (nI (wt P k) + nI 0), nI k + 1)) = _
          rw [nI_1, nI_add, nI_add]
      · rw [if_neg (nI_ne t (by omega) (by omega)), if_neg (fun q => t q.2)]
        show some (Sum.inl (nI _ + nI 0, nI k + 1)) = _
        rw [nI_1, nI_add]
  · show b183_5 p S (nI x) (nI (ldn P g x (pN P))) (nI (pN P)) = _
    unfold b183_5
    rw [r_mN h, if_pos (le_nI (Nat.le_refl _) (by omega))]
end
