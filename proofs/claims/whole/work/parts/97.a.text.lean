-- THE TEXT READ, BOTH SIDES
def vl (tx : Nat → Nat) (n c i : Nat) : Nat := if i < n ∧ c ≤ tx i then tx i - c else 1000
def btv (tx : Nat → Nat) (n i : Nat) : Int32 := if i < n then nI (tx i) else -1
theorem vl_sp {tx : Nat → Nat} {n c i : Nat} (ht : ∀ j, j < 60 → tx j < 256) (hn : n ≤ 60) (hc : c = 48 ∨ c = 97) : (vl tx n c i < 256 ∧ i < n ∧ c ≤ tx i ∧ vl tx n c i = tx i - c ∧ btv tx n i - nI c = nI (vl tx n c i)) ∨ (vl tx n c i = 1000 ∧ ¬ (i < n ∧ c ≤ tx i) ∧ btv tx n i - nI c < 0) := by
  unfold vl btv
  by_cases h : i < n
  · have := ht i (by omega)
    by_cases h2 : c ≤ tx i
    · left
      rw [if_pos ⟨h, h2⟩, if_pos h, pk_sub h2]
      exact ⟨by omega, h, h2, rfl, rfl⟩
    · right
      rw [if_neg (fun q => h2 q.2), if_pos h]
      exact ⟨rfl, fun q => h2 q.2, pk_sneg (by omega) (by omega)⟩
  · right
    rw [if_neg (fun q => h q.1), if_neg h]
    refine ⟨rfl, fun q => h q.1, ?_⟩
    rcases hc with rfl | rfl
    · decide
    · decide
def qu (Q : pl_T) (a b x : Nat) : pl_T := fun i j => if i = a ∧ j = b then x else Q i j
theorem qu_eq {Q : pl_T} {a b x : Nat} : qu Q a b x a b = x := if_pos ⟨rfl, rfl⟩
theorem qu_n1 {Q : pl_T} {a b x i j : Nat} (h : i ≠ a) : qu Q a b x i j = Q i j := if_neg (fun q => h q.1)
theorem qu_n2 {Q : pl_T} {a b x i j : Nat} (h : j ≠ b) : qu Q a b x i j = Q i j := if_neg (fun q => h q.2)
def st (P : pl_T) (f : Nat) : Nat := P 6 f
def tkm (Q : pl_T) : Nat := mkl (pD Q) (dr Q) ||| mkl (pF Q) (st Q)
def addD (Q : pl_T) (c : Nat) : pl_T := qu (qu Q 1 (pD Q) c) 0 0 (pD Q + 1)
def addF (Q : pl_T) (c : Nat) : pl_T := qu (qu Q 6 (pF Q) c) 0 1 (pF Q + 1)
def addP (Q : pl_T) (w k : Nat) : pl_T := qu (qu (qu Q 2 (pN Q) w) 3 (pN Q) k) 0 2 (pN Q + 1)
def addL (Q : pl_T) (i j : Nat) : pl_T := qu (qu (qu Q 4 (pL Q) i) 5 (pL Q) j) 0 3 (pL Q + 1)
def thg (tx : Nat → Nat) (n i : Nat) (Q : pl_T) : Nat × Option pl_T :=
  if tx i = 68 then (if 3 ≤ pD Q ∨ tkm Q / 4096 = 63 then (0, none) else if (cm 258048 (tkm Q)).testBit (vl tx n 97 (i + 1)) = true then (2, some (addD Q (vl tx n 97 (i + 1)))) else (1, none))
  else if tx i = 70 then (if 4 ≤ pF Q then (0, none) else if (cm 262143 (tkm Q)).testBit (vl tx n 97 (i + 1)) = true then (2, some (addF Q (vl tx n 97 (i + 1)))) else (1, none))
  else if tx i = 80 then (if 6 ≤ pN Q then (0, none) else if 1 ≤ vl tx n 48 (i + 1) ∧ vl tx n 48 (i + 1) ≤ 9 then (if vl tx n 48 (i + 2) ≤ 3 then (3, some (addP Q (vl tx n 48 (i + 1)) (vl tx n 48 (i + 2)))) else (2, none)) else (1, none))
  else if tx i = 76 then (if 6 ≤ pL Q ∨ pN Q < 2 then (0, none) else if vl tx n 48 (i + 1) < pN Q then (if vl tx n 48 (i + 2) < pN Q ∧ vl tx n 48 (i + 2) ≠ vl tx n 48 (i + 1) then (3, some (addL Q (vl tx n 48 (i + 1)) (vl tx n 48 (i + 2)))) else (2, none)) else (1, none))
  else (0, none)
def Qok (Q : pl_T) : Prop := (pD Q ≤ 3 ∧ pF Q ≤ 4 ∧ pN Q ≤ 6 ∧ pL Q ≤ 6) ∧ (∀ d, d < pD Q → 12 ≤ dr Q d ∧ dr Q d < 18) ∧ (∀ f, f < pF Q → st Q f < 18) ∧ (∀ k, k < pN Q → 1 ≤ wt Q k ∧ wt Q k ≤ 9 ∧ kd Q k ≤ 3) ∧ (∀ l, l < pL Q → sy Q l < pN Q ∧ hr Q l < pN Q ∧ sy Q l ≠ hr Q l)
def rd1 (a : Nat) (T : ov_S) (Q : pl_T) : Prop := (T a 0 = nI (pD Q) ∧ T a 1 = nI (pF Q) ∧ T a 2 = nI (pN Q) ∧ T a 3 = nI (pL Q)) ∧ (∀ d, d < pD Q → T (a + 1) d = nI (dr Q d)) ∧ (∀ f, f < pF Q → T (a + 2) f = nI (st Q f)) ∧ (∀ k, k < pN Q → T (a + 3) k = nI (wt Q k) ∧ T (a + 4) k = nI (kd Q k)) ∧ (∀ l, l < pL Q → T (a + 5) l = nI (sy Q l) ∧ T (a + 6) l = nI (hr Q l)) ∧ T a 10 = nI (gm Q) ∧ T a 11 = nI (tkm Q)
def rd2 (T : ov_S) (Q : pl_T) : Prop := (T 42 13 = nI (pD Q) ∧ T 42 15 = nI (pF Q) ∧ T 42 17 = nI (pN Q) ∧ T 42 20 = nI (pL Q)) ∧ (∀ d, d < pD Q → T 49 d = nI (dr Q d)) ∧ (∀ f, f < pF Q → T 50 f = nI (st Q f)) ∧ (∀ k, k < pN Q → T 51 k = nI (wt Q k) ∧ T 52 k = nI (kd Q k)) ∧ (∀ l, l < pL Q → T 53 l = nI (sy Q l) ∧ T 54 l = nI (hr Q l))
theorem mkl_ext {n : Nat} {g h : Nat → Nat} (e : ∀ k, k < n → g k = h k) : mkl n g = mkl n h := by
  induction n with
  | zero => rfl
  | succ n ih =>
    unfold mkl
    rw [ih (fun k hk => e k (by omega)), e n (by omega)]
theorem tkm_lt {Q : pl_T} (h : Qok Q) : tkm Q < 2 ^ 18 := Nat.or_lt_two_pow (mkl_lt fun d hd => (h.2.1 d hd).2) (mkl_lt fun f hf => h.2.2.1 f hf)
-- what is added
theorem aD_dr {Q : pl_T} {c d : Nat} : dr (addD Q c) d = if d = pD Q then c else dr Q d := by
  show qu (qu Q 1 (pD Q) c) 0 0 (pD Q + 1) 1 d = _
  rw [qu_n1 (by decide)]
  by_cases h : d = pD Q
  · rw [if_pos h, h, qu_eq]
  · rw [if_neg h, qu_n2 h]
    rfl
theorem aF_st {Q : pl_T} {c f : Nat} : st (addF Q c) f = if f = pF Q then c else st Q f := by
  show qu (qu Q 6 (pF Q) c) 0 1 (pF Q + 1) 6 f = _
  rw [qu_n1 (by decide)]
  by_cases h : f = pF Q
  · rw [if_pos h, h, qu_eq]
  · rw [if_neg h, qu_n2 h]
    rfl
theorem aP_wt {Q : pl_T} {w k f : Nat} : wt (addP Q w k) f = if f = pN Q then w else wt Q f := by
  show qu (qu (qu Q 2 (pN Q) w) 3 (pN Q) k) 0 2 (pN Q + 1) 2 f = _
  rw [qu_n1 (by decide), qu_n1 (by decide)]
  by_cases h : f = pN Q
  · rw [if_pos h, h, qu_eq]
  · rw [if_neg h, qu_n2 h]
    rfl
theorem aP_kd {Q : pl_T} {w k f : Nat} : kd (addP Q w k) f = if f = pN Q then k else kd Q f := by
  show qu (qu (qu Q 2 (pN Q) w) 3 (pN Q) k) 0 2 (pN Q + 1) 3 f = _
  rw [qu_n1 (by decide)]
  by_cases h : f = pN Q
  · rw [if_pos h, h, qu_eq]
  · rw [if_neg h, qu_n2 h, qu_n1 (by decide)]
    rfl
theorem aL_sy {Q : pl_T} {i j f : Nat} : sy (addL Q i j) f = if f = pL Q then i else sy Q f := by
  show qu (qu (qu Q 4 (pL Q) i) 5 (pL Q) j) 0 3 (pL Q + 1) 4 f = _
  rw [qu_n1 (by decide), qu_n1 (by decide)]
  by_cases h : f = pL Q
  · rw [if_pos h, h, qu_eq]
  · rw [if_neg h, qu_n2 h]
    rfl
theorem aL_hr {Q : pl_T} {i j f : Nat} : hr (addL Q i j) f = if f = pL Q then j else hr Q f := by
  show qu (qu (qu Q 4 (pL Q) i) 5 (pL Q) j) 0 3 (pL Q + 1) 5 f = _
  rw [qu_n1 (by decide)]
  by_cases h : f = pL Q
  · rw [if_pos h, h, qu_eq]
  · rw [if_neg h, qu_n2 h, qu_n1 (by decide)]
    rfl
theorem aD_c {Q : pl_T} {c : Nat} : pD (addD Q c) = pD Q + 1 ∧ pF (addD Q c) = pF Q ∧ pN (addD Q c) = pN Q ∧ pL (addD Q c) = pL Q := ⟨rfl, rfl, rfl, rfl⟩
theorem aF_c {Q : pl_T} {c : Nat} : pD (addF Q c) = pD Q ∧ pF (addF Q c) = pF Q + 1 ∧ pN (addF Q c) = pN Q ∧ pL (addF Q c) = pL Q := ⟨rfl, rfl, rfl, rfl⟩
theorem aP_c {Q : pl_T} {w k : Nat} : pD (addP Q w k) = pD Q ∧ pF (addP Q w k) = pF Q ∧ pN (addP Q w k) = pN Q + 1 ∧ pL (addP Q w k) = pL Q := ⟨rfl, rfl, rfl, rfl⟩
theorem aL_c {Q : pl_T} {w k : Nat} : pD (addL Q w k) = pD Q ∧ pF (addL Q w k) = pF Q ∧ pN (addL Q w k) = pN Q ∧ pL (addL Q w k) = pL Q + 1 := ⟨rfl, rfl, rfl, rfl⟩
theorem aD_o {Q : pl_T} {c f : Nat} : st (addD Q c) f = st Q f ∧ wt (addD Q c) f = wt Q f ∧ kd (addD Q c) f = kd Q f ∧ sy (addD Q c) f = sy Q f ∧ hr (addD Q c) f = hr Q f := ⟨rfl, rfl, rfl, rfl, rfl⟩
theorem aF_o {Q : pl_T} {c f : Nat} : dr (addF Q c) f = dr Q f ∧ wt (addF Q c) f = wt Q f ∧ kd (addF Q c) f = kd Q f ∧ sy (addF Q c) f = sy Q f ∧ hr (addF Q c) f = hr Q f := ⟨rfl, rfl, rfl, rfl, rfl⟩
theorem aP_o {Q : pl_T} {w k f : Nat} : dr (addP Q w k) f = dr Q f ∧ st (addP Q w k) f = st Q f ∧ sy (addP Q w k) f = sy Q f ∧ hr (addP Q w k) f = hr Q f := ⟨rfl, rfl, rfl, rfl⟩
theorem aL_o {Q : pl_T} {w k f : Nat} : dr (addL Q w k) f = dr Q f ∧ st (addL Q w k) f = st Q f ∧ wt (addL Q w k) f = wt Q f ∧ kd (addL Q w k) f = kd Q f := ⟨rfl, rfl, rfl, rfl⟩
theorem aD_t {Q : pl_T} {c : Nat} : tkm (addD Q c) = tkm Q ||| 2 ^ c := by
  have e : mkl (pD Q) (dr (addD Q c)) = mkl (pD Q) (dr Q) := mkl_ext fun k hk => by rw [aD_dr, if_neg (by omega)]
  show (mkl (pD Q) (dr (addD Q c)) ||| 2 ^ dr (addD Q c) (pD Q)) ||| mkl (pF Q) (st Q) = (mkl (pD Q) (dr Q) ||| mkl (pF Q) (st Q)) ||| 2 ^ c
  rw [e, aD_dr, if_pos rfl, Nat.or_assoc, Nat.or_assoc, Nat.or_comm (2 ^ c)]
theorem aF_t {Q : pl_T} {c : Nat} : tkm (addF Q c) = tkm Q ||| 2 ^ c := by
  have e : mkl (pF Q) (st (addF Q c)) = mkl (pF Q) (st Q) := mkl_ext fun k hk => by rw [aF_st, if_neg (by omega)]
  show mkl (pD Q) (dr Q) ||| (mkl (pF Q) (st (addF Q c)) ||| 2 ^ st (addF Q c) (pF Q)) = (mkl (pD Q) (dr Q) ||| mkl (pF Q) (st Q)) ||| 2 ^ c
  rw [e, aF_st, if_pos rfl, Nat.or_assoc]
theorem aP_g {Q : pl_T} {w k : Nat} : gm (addP Q w k) = gm Q ||| (if k = 2 then 2 ^ pN Q else 0) := by
  have e : mk (pN Q) (fun f => decide (kd (addP Q w k) f = 2)) = mk (pN Q) (fun f => decide (kd Q f = 2)) := mk_ext fun f hf => by rw [aP_kd, if_neg (by omega)]
  show mk (pN Q) (fun f => decide (kd (addP Q w k) f = 2)) ||| (if decide (kd (addP Q w k) (pN Q) = 2) = true then 2 ^ pN Q else 0) = _
  rw [e, aP_kd, if_pos rfl]
  by_cases h : k = 2
  · rw [if_pos h, if_pos (decide_eq_true h)]
    rfl
  · rw [if_neg h, if_neg (by rw [decide_eq_false h]; decide)]
    rfl
theorem tb_bk : ∀ i, i < 18 → (258048 : Nat).testBit i = decide (12 ≤ i) := by decide
theorem cm_bk {t c : Nat} : (cm 258048 t).testBit c = true ↔ 12 ≤ c ∧ c < 18 ∧ t.testBit c = false := by
  rw [tb_cm (by decide)]
  by_cases h : c < 18
  · rw [tb_bk c h, Bool.and_eq_true, decide_eq_true_eq, Bool.not_eq_true']
    exact ⟨fun q => ⟨q.1, h, q.2⟩, fun q => ⟨q.1, q.2.2⟩⟩
  · rw [tb_out (show (258048 : Nat) < 2 ^ 18 by decide) (by omega), Bool.false_and]
    exact ⟨fun q => Bool.noConfusion q, fun q => absurd q.2.1 h⟩
theorem cm_al {t c : Nat} : (cm 262143 t).testBit c = true ↔ c < 18 ∧ t.testBit c = false := by
  rw [tb_cm (by decide)]
  by_cases h : c < 18
  · rw [tb_all c h, Bool.true_and, Bool.not_eq_true']
    exact ⟨fun q => ⟨h, q⟩, fun q => q.2⟩
  · rw [tb_out (show (262143 : Nat) < 2 ^ 18 by decide) (by omega), Bool.false_and]
    exact ⟨fun q => Bool.noConfusion q, fun q => absurd q.1 h⟩
theorem bk_full {t : Nat} (ht : t < 2 ^ 18) : cm 258048 t = 0 ↔ t / 4096 = 63 := by
  constructor
  · intro h
    apply Nat.eq_of_testBit_eq
    intro j
    rw [show t / 4096 = t / 2 ^ 12 from rfl, Nat.testBit_div_two_pow]
    by_cases hj : j < 6
    · rw [tb_63 j hj]
      cases q : t.testBit (j + 12)
      · have : (cm 258048 t).testBit (j + 12) = true := cm_bk.mpr ⟨by omega, by omega, q⟩
        rw [h, Nat.zero_testBit] at this
        cases this
      · rfl
    · rw [tb_out ht (by omega)]
      exact (Nat.testBit_lt_two_pow (Nat.lt_of_lt_of_le (show 63 < 2 ^ 6 by decide) (Nat.pow_le_pow_right (by decide) (by omega)))).symm
  · intro h
    apply Nat.eq_of_testBit_eq
    intro i
    rw [Nat.zero_testBit]
    cases q : (cm 258048 t).testBit i
    · rfl
    · obtain ⟨q1, q2, q3⟩ := cm_bk.mp q
      have e : t.testBit i = (t / 2 ^ 12).testBit (i - 12) := by
        rw [Nat.testBit_div_two_pow]
        congr 1
        omega
      rw [e, show t / 2 ^ 12 = t / 4096 from rfl, h, tb_63 _ (by omega)] at q3
      cases q3
-- what holds when a thing is added
theorem Q_D {Q : pl_T} {c : Nat} (h : Qok Q) (h3 : pD Q < 3) (c1 : 12 ≤ c) (c2 : c < 18) : Qok (addD Q c) := by
  obtain ⟨⟨q1, q2, q3, q4⟩, q5, q6, q7, q8⟩ := h
  refine ⟨⟨by rw [aD_c.1]; omega, q2, q3, q4⟩, fun d hd => ?_, q6, q7, q8⟩
  rw [aD_c.1] at hd
  rw [aD_dr]
  by_cases e : d = pD Q
  · rw [if_pos e]
    exact ⟨c1, c2⟩
  · rw [if_neg e]
    exact q5 d (by omega)
theorem Q_F {Q : pl_T} {c : Nat} (h : Qok Q) (h3 : pF Q < 4) (c2 : c < 18) : Qok (addF Q c) := by
  obtain ⟨⟨q1, q2, q3, q4⟩, q5, q6, q7, q8⟩ := h
  refine ⟨⟨q1, by rw [aF_c.2.1]; omega, q3, q4⟩, q5, fun d hd => ?_, q7, q8⟩
  rw [aF_c.2.1] at hd
  rw [aF_st]
  by_cases e : d = pF Q
  · rw [if_pos e]
    exact c2
  · rw [if_neg e]
    exact q6 d (by omega)
theorem Q_P {Q : pl_T} {w k : Nat} (h : Qok Q) (h3 : pN Q < 6) (w1 : 1 ≤ w) (w2 : w ≤ 9) (k3 : k ≤ 3) : Qok (addP Q w k) := by
  obtain ⟨⟨q1, q2, q3, q4⟩, q5, q6, q7, q8⟩ := h
  refine ⟨⟨q1, q2, by rw [aP_c.2.2.1]; omega, q4⟩, q5, q6, fun d hd => ?_, fun l hl => ?_⟩
  · rw [aP_c.2.2.1] at hd
    rw [aP_wt, aP_kd]
    by_cases e : d = pN Q
    · rw [if_pos e, if_pos e]
      exact ⟨w1, w2, k3⟩
    · rw [if_neg e, if_neg e]
      exact q7 d (by omega)
  · rw [aP_c.2.2.1]
    obtain ⟨z1, z2, z3⟩ := q8 l hl
    exact ⟨Nat.lt_succ_of_lt z1, Nat.lt_succ_of_lt z2, z3⟩
theorem Q_L {Q : pl_T} {i j : Nat} (h : Qok Q) (h3 : pL Q < 6) (hi : i < pN Q) (hj : j < pN Q) (ne : j ≠ i) : Qok (addL Q i j) := by
  obtain ⟨⟨q1, q2, q3, q4⟩, q5, q6, q7, q8⟩ := h
  refine ⟨⟨q1, q2, q3, by rw [aL_c.2.2.2]; omega⟩, q5, q6, q7, fun l hl => ?_⟩
  rw [aL_c.2.2.2] at hl
  rw [aL_sy, aL_hr]
  by_cases e : l = pL Q
  · rw [if_pos e, if_pos e]
    exact ⟨hi, hj, fun q => ne q.symm⟩
  · rw [if_neg e, if_neg e]
    exact q8 l (by omega)
section
variable {T : ov_S} {Q : pl_T} {a : Nat}
theorem rd1_D {c : Nat} (h : rd1 a T Q) : rd1 a (ov_up (ov_up (ov_up T (a + 1) (pD Q) (nI c)) a 0 (nI (pD Q + 1))) a 11 (nI (tkm Q ||| 2 ^ c))) (addD Q c) := by
  obtain ⟨⟨h0, h1, h2, h3⟩, h4, h5, h6, h7, h8, h9⟩ := h
  refine ⟨⟨?_, ?_, ?_, ?_⟩, fun d hd => ?_, fun f hf => ?_, fun k hk => ⟨?_, ?_⟩, fun l hl => ⟨?_, ?_⟩, ?_, ?_⟩
  · rw [up_n2 (by decide), up_eq, aD_c.1]
  · rw [up_n2 (by decide), up_n2 (by decide), up_n1 (by omega), h1]
    rfl
  · rw [up_n2 (by decide), up_n2 (by decide), up_n1 (by omega), h2]
    rfl
  · rw [up_n2 (by decide), up_n2 (by decide), up_n1 (by omega), h3]
    rfl
  · rw [aD_c.1] at hd
    rw [up_n1 (by omega), up_n1 (by omega), aD_dr]
    by_cases e : d = pD Q
    · rw [if_pos e, e, up_eq]
    · rw [if_neg e, up_n2 e, h4 d (by omega)]
  · rw [up_n1 (by omega), up_n1 (by omega), up_n1 (by omega)]
    exact h5 f hf
  · rw [up_n1 (by omega), up_n1 (by omega), up_n1 (by omega)]
    exact (h6 k hk).1
  · rw [up_n1 (by omega), up_n1 (by omega), up_n1 (by omega)]
    exact (h6 k hk).2
  · rw [up_n1 (by omega), up_n1 (by omega), up_n1 (by omega)]
    exact (h7 l hl).1
  · rw [up_n1 (by omega), up_n1 (by omega), up_n1 (by omega)]
    exact (h7 l hl).2
  · rw [up_n2 (by decide), up_n2 (by decide), up_n1 (by omega)]
    exact h8
  · rw [up_eq, aD_t]
theorem rd1_F {c : Nat} (h : rd1 a T Q) : rd1 a (ov_up (ov_up (ov_up T (a + 2) (pF Q) (nI c)) a 1 (nI (pF Q + 1))) a 11 (nI (tkm Q ||| 2 ^ c))) (addF Q c) := by
  obtain ⟨⟨h0, h1, h2, h3⟩, h4, h5, h6, h7, h8, h9⟩ := h
  refine ⟨⟨?_, ?_, ?_, ?_⟩, fun d hd => ?_, fun f hf => ?_, fun k hk => ⟨?_, ?_⟩, fun l hl => ⟨?_, ?_⟩, ?_, ?_⟩
  · rw [up_n2 (by decide), up_n2 (by decide), up_n1 (by omega), h0]
    rfl
  · rw [up_n2 (by decide), up_eq, aF_c.2.1]
  · rw [up_n2 (by decide), up_n2 (by decide), up_n1 (by omega), h2]
    rfl
  · rw [up_n2 (by decide), up_n2 (by decide), up_n1 (by omega), h3]
    rfl
  · rw [up_n1 (by omega), up_n1 (by omega), up_n1 (by omega)]
    exact h4 d hd
  · rw [aF_c.2.1] at hf
    rw [up_n1 (by omega), up_n1 (by omega), aF_st]
    by_cases e : f = pF Q
    · rw [if_pos e, e, up_eq]
    · rw [if_neg e, up_n2 e, h5 f (by omega)]
  · rw [up_n1 (by omega), up_n1 (by omega), up_n1 (by omega)]
    exact (h6 k hk).1
  · rw [up_n1 (by omega), up_n1 (by omega), up_n1 (by omega)]
    exact (h6 k hk).2
  · rw [up_n1 (by omega), up_n1 (by omega), up_n1 (by omega)]
    exact (h7 l hl).1
  · rw [up_n1 (by omega), up_n1 (by omega), up_n1 (by omega)]
    exact (h7 l hl).2
  · rw [up_n2 (by decide), up_n2 (by decide), up_n1 (by omega)]
    exact h8
  · rw [up_eq, aF_t]
theorem rd1_P {w k : Nat} (h : rd1 a T Q) : rd1 a (ov_up (ov_up (ov_up (ov_up T (a + 3) (pN Q) (nI w)) (a + 4) (pN Q) (nI k)) a 10 (nI (gm Q ||| (if k = 2 then 2 ^ pN Q else 0)))) a 2 (nI (pN Q + 1))) (addP Q w k) := by
  obtain ⟨⟨h0, h1, h2, h3⟩, h4, h5, h6, h7, h8, h9⟩ := h
  refine ⟨⟨?_, ?_, ?_, ?_⟩, fun d hd => ?_, fun f hf => ?_, fun k hk => ⟨?_, ?_⟩, fun l hl => ⟨?_, ?_⟩, ?_, ?_⟩
  · rw [up_n2 (by decide), up_n2 (by decide), up_n1 (by omega), up_n1 (by omega), h0]
    rfl
  · rw [up_n2 (by decide), up_n2 (by decide), up_n1 (by omega), up_n1 (by omega), h1]
    rfl
  · rw [up_eq, aP_c.2.2.1]
  · rw [up_n2 (by decide), up_n2 (by decide), up_n1 (by omega), up_n1 (by omega), h3]
    rfl
  · rw [up_n1 (by omega), up_n1 (by omega), up_n1 (by omega), up_n1 (by omega)]
    exact h4 d hd
  · rw [up_n1 (by omega), up_n1 (by omega), up_n1 (by omega), up_n1 (by omega)]
    exact h5 f hf
  · rw [aP_c.2.2.1] at hk
    rw [up_n1 (by omega), up_n1 (by omega), up_n1 (by omega), aP_wt]
    by_cases e : k = pN Q
    · rw [if_pos e, e, up_eq]
    · rw [if_neg e, up_n2 e, (h6 k (by omega)).1]
  · rw [aP_c.2.2.1] at hk
    rw [up_n1 (by omega), up_n1 (by omega), aP_kd]
    by_cases e : k = pN Q
    · rw [if_pos e, e, up_eq]
    · rw [if_neg e, up_n2 e, up_n1 (by omega), (h6 k (by omega)).2]
  · rw [up_n1 (by omega), up_n1 (by omega), up_n1 (by omega), up_n1 (by omega)]
    exact (h7 l hl).1
  · rw [up_n1 (by omega), up_n1 (by omega), up_n1 (by omega), up_n1 (by omega)]
    exact (h7 l hl).2
  · rw [up_n2 (by decide), up_eq, aP_g]
  · rw [up_n2 (by decide), up_n2 (by decide), up_n1 (by omega), up_n1 (by omega)]
    exact h9
theorem rd1_L {i j : Nat} (h : rd1 a T Q) : rd1 a (ov_up (ov_up (ov_up T (a + 5) (pL Q) (nI i)) (a + 6) (pL Q) (nI j)) a 3 (nI (pL Q + 1))) (addL Q i j) := by
  obtain ⟨⟨h0, h1, h2, h3⟩, h4, h5, h6, h7, h8, h9⟩ := h
  refine ⟨⟨?_, ?_, ?_, ?_⟩, fun d hd => ?_, fun f hf => ?_, fun k hk => ⟨?_, ?_⟩, fun l hl => ⟨?_, ?_⟩, ?_, ?_⟩
  · rw [up_n2 (by decide), up_n1 (by omega), up_n1 (by omega), h0]
    rfl
  · rw [up_n2 (by decide), up_n1 (by omega), up_n1 (by omega), h1]
    rfl
  · rw [up_n2 (by decide), up_n1 (by omega), up_n1 (by omega), h2]
    rfl
  · rw [up_eq, aL_c.2.2.2]
  · rw [up_n1 (by omega), up_n1 (by omega), up_n1 (by omega)]
    exact h4 d hd
  · rw [up_n1 (by omega), up_n1 (by omega), up_n1 (by omega)]
    exact h5 f hf
  · rw [up_n1 (by omega), up_n1 (by omega), up_n1 (by omega)]
    exact (h6 k hk).1
  · rw [up_n1 (by omega), up_n1 (by omega), up_n1 (by omega)]
    exact (h6 k hk).2
  · rw [aL_c.2.2.2] at hl
    rw [up_n1 (by omega), up_n1 (by omega), aL_sy]
    by_cases e : l = pL Q
    · rw [if_pos e, e, up_eq]
    · rw [if_neg e, up_n2 e, (h7 l (by omega)).1]
  · rw [aL_c.2.2.2] at hl
    rw [up_n1 (by omega), aL_hr]
    by_cases e : l = pL Q
    · rw [if_pos e, e, up_eq]
    · rw [if_neg e, up_n2 e, up_n1 (by omega), (h7 l (by omega)).2]
  · rw [up_n2 (by decide), up_n1 (by omega), up_n1 (by omega)]
    exact h8
  · rw [up_n2 (by decide), up_n1 (by omega), up_n1 (by omega)]
    exact h9
theorem rd2_D {c : Nat} (h : rd2 T Q) : rd2 (ov_up (ov_up T 49 (pD Q) (nI c)) 42 13 (nI (pD Q + 1))) (addD Q c) := by
  obtain ⟨⟨h0, h1, h2, h3⟩, h4, h5, h6, h7⟩ := h
  refine ⟨⟨?_, ?_, ?_, ?_⟩, fun d hd => ?_, fun f hf => ?_, fun k hk => ⟨?_, ?_⟩, fun l hl => ⟨?_, ?_⟩⟩
  · rw [up_eq, aD_c.1]
  · rw [up_n2 (by decide), up_n1 (by decide), h1]
    rfl
  · rw [up_n2 (by decide), up_n1 (by decide), h2]
    rfl
  · rw [up_n2 (by decide), up_n1 (by decide), h3]
    rfl
  · rw [aD_c.1] at hd
    rw [up_n1 (by decide), aD_dr]
    by_cases e : d = pD Q
    · rw [if_pos e, e, up_eq]
    · rw [if_neg e, up_n2 e, h4 d (by omega)]
  · rw [up_n1 (by decide), up_n1 (by decide)]
    exact h5 f hf
  · rw [up_n1 (by decide), up_n1 (by decide)]
    exact (h6 k hk).1
  · rw [up_n1 (by decide), up_n1 (by decide)]
    exact (h6 k hk).2
  · rw [up_n1 (by decide), up_n1 (by decide)]
    exact (h7 l hl).1
  · rw [up_n1 (by decide), up_n1 (by decide)]
    exact (h7 l hl).2
theorem rd2_F {c : Nat} (h : rd2 T Q) : rd2 (ov_up (ov_up T 50 (pF Q) (nI c)) 42 15 (nI (pF Q + 1))) (addF Q c) := by
  obtain ⟨⟨h0, h1, h2, h3⟩, h4, h5, h6, h7⟩ := h
  refine ⟨⟨?_, ?_, ?_, ?_⟩, fun d hd => ?_, fun f hf => ?_, fun k hk => ⟨?_, ?_⟩, fun l hl => ⟨?_, ?_⟩⟩
  · rw [up_n2 (by decide), up_n1 (by decide), h0]
    rfl
  · rw [up_eq, aF_c.2.1]
  · rw [up_n2 (by decide), up_n1 (by decide), h2]
    rfl
  · rw [up_n2 (by decide), up_n1 (by decide), h3]
    rfl
  · rw [up_n1 (by decide), up_n1 (by decide)]
    exact h4 d hd
  · rw [aF_c.2.1] at hf
    rw [up_n1 (by decide), aF_st]
    by_cases e : f = pF Q
    · rw [if_pos e, e, up_eq]
    · rw [if_neg e, up_n2 e, h5 f (by omega)]
  · rw [up_n1 (by decide), up_n1 (by decide)]
    exact (h6 k hk).1
  · rw [up_n1 (by decide), up_n1 (by decide)]
    exact (h6 k hk).2
  · rw [up_n1 (by decide), up_n1 (by decide)]
    exact (h7 l hl).1
  · rw [up_n1 (by decide), up_n1 (by decide)]
    exact (h7 l hl).2
theorem rd2_P {w k : Nat} (h : rd2 T Q) : rd2 (ov_up (ov_up (ov_up T 51 (pN Q) (nI w)) 52 (pN Q) (nI k)) 42 17 (nI (pN Q + 1))) (addP Q w k) := by
  obtain ⟨⟨h0, h1, h2, h3⟩, h4, h5, h6, h7⟩ := h
  refine ⟨⟨?_, ?_, ?_, ?_⟩, fun d hd => ?_, fun f hf => ?_, fun k hk => ⟨?_, ?_⟩, fun l hl => ⟨?_, ?_⟩⟩
  · rw [up_n2 (by decide), up_n1 (by decide), up_n1 (by decide), h0]
    rfl
  · rw [up_n2 (by decide), up_n1 (by decide), up_n1 (by decide), h1]
    rfl
  · rw [up_eq, aP_c.2.2.1]
  · rw [up_n2 (by decide), up_n1 (by decide), up_n1 (by decide), h3]
    rfl
  · rw [up_n1 (by decide), up_n1 (by decide), up_n1 (by decide)]
    exact h4 d hd
  · rw [up_n1 (by decide), up_n1 (by decide), up_n1 (by decide)]
    exact h5 f hf
  · rw [aP_c.2.2.1] at hk
    rw [up_n1 (by decide), up_n1 (by decide), aP_wt]
    by_cases e : k = pN Q
    · rw [if_pos e, e, up_eq]
    · rw [if_neg e, up_n2 e, (h6 k (by omega)).1]
  · rw [aP_c.2.2.1] at hk
    rw [up_n1 (by decide), aP_kd]
    by_cases e : k = pN Q
    · rw [if_pos e, e, up_eq]
    · rw [if_neg e, up_n2 e, up_n1 (by decide), (h6 k (by omega)).2]
  · rw [up_n1 (by decide), up_n1 (by decide), up_n1 (by decide)]
    exact (h7 l hl).1
  · rw [up_n1 (by decide), up_n1 (by decide), up_n1 (by decide)]
    exact (h7 l hl).2
theorem rd2_L {i j : Nat} (h : rd2 T Q) : rd2 (ov_up (ov_up (ov_up T 53 (pL Q) (nI i)) 54 (pL Q) (nI j)) 42 20 (nI (pL Q + 1))) (addL Q i j) := by
  obtain ⟨⟨h0, h1, h2, h3⟩, h4, h5, h6, h7⟩ := h
  refine ⟨⟨?_, ?_, ?_, ?_⟩, fun d hd => ?_, fun f hf => ?_, fun k hk => ⟨?_, ?_⟩, fun l hl => ⟨?_, ?_⟩⟩
  · rw [up_n2 (by decide), up_n1 (by decide), up_n1 (by decide), h0]
    rfl
  · rw [up_n2 (by decide), up_n1 (by decide), up_n1 (by decide), h1]
    rfl
  · rw [up_n2 (by decide), up_n1 (by decide), up_n1 (by decide), h2]
    rfl
  · rw [up_eq, aL_c.2.2.2]
  · rw [up_n1 (by decide), up_n1 (by decide), up_n1 (by decide)]
    exact h4 d hd
  · rw [up_n1 (by decide), up_n1 (by decide), up_n1 (by decide)]
    exact h5 f hf
  · rw [up_n1 (by decide), up_n1 (by decide), up_n1 (by decide)]
    exact (h6 k hk).1
  · rw [up_n1 (by decide), up_n1 (by decide), up_n1 (by decide)]
    exact (h6 k hk).2
  · rw [aL_c.2.2.2] at hl
    rw [up_n1 (by decide), up_n1 (by decide), aL_sy]
    by_cases e : l = pL Q
    · rw [if_pos e, e, up_eq]
    · rw [if_neg e, up_n2 e, (h7 l (by omega)).1]
  · rw [aL_c.2.2.2] at hl
    rw [up_n1 (by decide), aL_hr]
    by_cases e : l = pL Q
    · rw [if_pos e, e, up_eq]
    · rw [if_neg e, up_n2 e, up_n1 (by decide), (h7 l (by omega)).2]
end
