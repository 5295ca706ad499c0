-- CALLS: the text, what is trodden
def ok2 (S : ov_S) (G : ov_L2) (c : Option (Int32 × ov_S)) (m : ov_S → Option (Int32 × ov_S)) : Prop := ∃ r S1 S2, c = some (r, S1) ∧ m S1 = some (r, S2) ∧ in_I S2 G ∧ S1 0 = S 0 ∧ S2 0 = S 0
def ok1 (S : ov_S) (G : ov_L2) (c : Option Int32) (m : Option (Int32 × ov_S)) : Prop := ∃ r S2, c = some r ∧ m = some (r, S2) ∧ in_I S2 G ∧ S2 0 = S 0
def agL (lk : Nat → Nat → Bool) (S S' : ov_S) : Prop := ∀ i j, lk i j = true → S' i j = S i j
theorem agL_rf {lk : Nat → Nat → Bool} {S : ov_S} : agL lk S S := fun _ _ _ => rfl
theorem agL_tr {lk : Nat → Nat → Bool} {S S1 S2 : ov_S} (h : agL lk S S1) (h2 : agL lk S1 S2) : agL lk S S2 := fun i j q => (h2 i j q).trans (h i j q)
theorem agL_up {lk : Nat → Nat → Bool} {S : ov_S} {a k : Nat} {x : Int32} (h : lk a k = false) : agL lk S (ov_up S a k x) := fun i j q => if_neg (fun w => by rw [w.1, w.2, h] at q; cases q)
theorem agL_ag {lk : Nat → Nat → Bool} {l : List Nat} {S S' : ov_S} (h : ag l S S') (q : ∀ i, i ∈ l → ∀ j, lk i j = false) : agL lk S S' := fun i j w => congrFun (h i (fun z => by rw [q i z j] at w; cases w)) j
theorem agL_sm {lk : Nat → Nat → Bool} {S S' : ov_S} (h : sm_S S S') (q : ∀ i j, lk i j = true → sc_R i j = false) : agL lk S S' := fun i j w => h i j (q i j w)
/-- all but the text -/
def lkT (a j : Nat) : Bool := lk_play a j || lk_now a j || lk_acts a j || lk_kept a j || lk_trod a j
/-- all but what is trodden -/
def lkD (a j : Nat) : Bool := lk_play a j || lk_now a j || lk_acts a j || lk_kept a j || lk_txt a j
/-- all but what is kept -/
def lkK (a j : Nat) : Bool := lk_play a j || lk_now a j || lk_acts a j || lk_txt a j || lk_trod a j
/-- all but the stage and the acts -/
def lkN (a j : Nat) : Bool := lk_play a j || lk_kept a j || lk_txt a j || lk_trod a j
theorem in_T {S S' : ov_S} {G : ov_L2} {P : pl_T} (q : in_P S G P) (h : agL lkT S S') (t : in_txt S') : in_P S' G P := by
  obtain ⟨h1, h2, h3, h4, h5, h6, h7⟩ := q
  refine ⟨t, cg_play (fun a j z => h a j ?_) h2, cg_now (fun a j z => h a j ?_) h3, cg_acts (fun a j z => h a j ?_) h4, cg_kept (fun a j z => h a j ?_) h5, cg_trod (fun a j z => h a j ?_) h6, h7⟩ <;> (unfold lkT; rw [z]; simp only [Bool.or_true, Bool.true_or])
theorem in_D {S S' : ov_S} {G : ov_L2} {P : pl_T} (q : in_P S G P) (h : agL lkD S S') (t : in_trod S') : in_P S' G P := by
  obtain ⟨h1, h2, h3, h4, h5, h6, h7⟩ := q
  refine ⟨cg_txt (fun a j z => h a j ?_) h1, cg_play (fun a j z => h a j ?_) h2, cg_now (fun a j z => h a j ?_) h3, cg_acts (fun a j z => h a j ?_) h4, cg_kept (fun a j z => h a j ?_) h5, t, h7⟩ <;> (unfold lkD; rw [z]; simp only [Bool.or_true, Bool.true_or])
theorem in_K {S S' : ov_S} {G : ov_L2} {P : pl_T} (q : in_P S G P) (h : agL lkK S S') (t : in_kept S' (pN P) (pF P)) : in_P S' G P := by
  obtain ⟨h1, h2, h3, h4, h5, h6, h7⟩ := q
  refine ⟨cg_txt (fun a j z => h a j ?_) h1, cg_play (fun a j z => h a j ?_) h2, cg_now (fun a j z => h a j ?_) h3, cg_acts (fun a j z => h a j ?_) h4, t, cg_trod (fun a j z => h a j ?_) h6, h7⟩ <;> (unfold lkK; rw [z]; simp only [Bool.or_true, Bool.true_or])
theorem in_N {S S' : ov_S} {G : ov_L2} {P : pl_T} (q : in_P S G P) (h : agL lkN S S') (t : in_now S' (pN P) (pF P)) (u : in_acts S' (pN P) (pF P) (pL P)) : in_P S' G P := by
  obtain ⟨h1, h2, h3, h4, h5, h6, h7⟩ := q
  refine ⟨cg_txt (fun a j z => h a j ?_) h1, cg_play (fun a j z => h a j ?_) h2, t, u, cg_kept (fun a j z => h a j ?_) h5, cg_trod (fun a j z => h a j ?_) h6, h7⟩ <;> (unfold lkN; rw [z]; simp only [Bool.or_true, Bool.true_or])
theorem up_0 {S : ov_S} {a k : Nat} {x : Int32} (h : a ≠ 0) : ov_up S a k x 0 = S 0 := up_n1 (Ne.symm h)
theorem ag_0 {l : List Nat} {S S' : ov_S} (h : ag l S S') (q : 0 ∉ l) : S' 0 = S 0 := h 0 q
theorem sm_0 {S S' : ov_S} (h : sm_S S S') : S' 0 = S 0 := funext fun j => h 0 j rfl
theorem in_t0 {S : ov_S} {G : ov_L2} {P : pl_T} (h : in_P S G P) : in_P (ov_up S 42 0 0) G P := in_sm (sm_up rfl) h
theorem M_55 (S : ov_S) : pg_M S 55 (S 55) := ⟨by decide, fun _ _ => rfl⟩
theorem M_t0 (S : ov_S) (x : Int32) : pg_M (ov_up S 42 0 x) 55 (S 55) := ⟨by decide, fun _ _ => rfl⟩
section
variable {S : ov_S} {G : ov_L2} {P : pl_T}
theorem s144z {x : Int32} {n : Nat} (y : Int32) (hy : y = nI n) (hn : n + 1 < 2 ^ 30) (hx : x < 0 ∨ nI (n + 1) ≤ x) : f144 x.toInt64 (0 : Int64) y.toInt64 = some 0 := by
  have := s144o (c := nI (n + 1)) (n := n + 1) rfl hn hx
  rw [nI_pred] at this
  rw [hy]
  exact this
theorem s144y {k n : Nat} (y : Int32) (hy : y = nI n) (hn : n + 1 < 2 ^ 30) (hk : k < n + 1) : f144 (nI k).toInt64 (0 : Int64) y.toInt64 = some 1 := by
  have := s144i (c := nI (n + 1)) (n := n + 1) rfl hk hn
  rw [nI_pred] at this
  rw [hy]
  exact this
theorem c_write (h : in_P S G P) (x : Int32) : ok2 S G (f12 S x) (fun T => f143 T x) := by
  have hI := in_t0 h
  obtain ⟨e1, ⟨n, n1, n2⟩, e3⟩ := h.1
  rw [n2] at e1
  have bad : (x < 0 ∨ nI 256 ≤ x) → ok2 S G (f12 S x) (fun T => f143 T x) := by
    intro hx
    refine ⟨-2, S, ov_up S 42 0 0, ?_, ?_, ⟨P, hI⟩, rfl, up_0 (by decide)⟩
    · unfold f12
      by_cases h0 : x < 0
      · rw [if_pos h0]
      · have h1 := hx.resolve_left h0
        have : ¬ x ≤ (255 : Int32) := fun q => by
          have a := Int32.le_iff_toInt_le.mp h1
          have b := Int32.le_iff_toInt_le.mp q
          rw [nI_toInt (by omega)] at a
          rw [show (255 : Int32) = nI 255 from rfl, nI_toInt (by omega)] at b
          omega
        rw [if_neg h0, if_neg this]
    · show f143 S x = _
      unfold f143
      rw [show (255 : Int64) = (255 : Int32).toInt64 from rfl, s144z (n := 255) 255 rfl (by omega) hx]
      rfl
  rcases pk_ix x (n := 256) (by omega) with hx | hx | ⟨b, hb, rfl⟩
  · exact bad (.inl hx)
  · exact bad (.inr hx)
  · have c1 : f12 S (nI b) = (f13 S (nI b)).bind fun y1 => (if y1.1 = 0 then some ((-4 : Int32), y1.2) else (f14 y1.2).bind fun y2 => some (y2, y1.2)) := by
      unfold f12
      rw [if_neg (nI_l0 (by omega)), show (255 : Int32) = nI 255 from rfl, if_pos (le_nI (by omega) (by omega))]
    have c2 : ∀ T, f143 T (nI b) = (if ((ov_up T 42 0 (0 : Int32)) 42 2) = (60 : Int32) then some ((-4 : Int32), (ov_up T 42 0 (0 : Int32))) else ov_ck (ov_ibb (T 42 2) 60) (some ((ov_up (ov_up (ov_up T 42 0 (0 : Int32)) 43 (T 42 2).toNatClampNeg (nI b)) 42 2 (T 42 2 + (1 : Int32))) 42 2, (ov_up (ov_up (ov_up T 42 0 (0 : Int32)) 43 (T 42 2).toNatClampNeg (nI b)) 42 2 (T 42 2 + (1 : Int32)))))) := by
      intro T
      unfold f143
      rw [show (255 : Int64) = (255 : Int32).toInt64 from rfl, s144y (n := 255) 255 rfl (by omega) (by omega), Option.bind_some, if_neg (by decide)]
      rfl
    by_cases n60 : n < 60
    · have c3 : f13 S (nI b) = some ((1 : Int32), ov_up (ov_up S 3 n (nI b)) 2 1 (nI (n + 1))) := by
        unfold f13
        rw [e1, show (60 : Int32) = nI 60 from rfl, if_pos (lt_nI n60 (by omega)), ov_ck_t (ib_nI n60 (by omega)), nI_clamp (by omega), up_n1 (show 2 ≠ 3 by decide), e1, nI_1]
      refine ⟨nI (n + 1), ov_up (ov_up S 3 n (nI b)) 2 1 (nI (n + 1)), ov_up (ov_up (ov_up (ov_up (ov_up S 3 n (nI b)) 2 1 (nI (n + 1))) 42 0 0) 43 n (nI b)) 42 2 (nI (n + 1)), ?_, ?_, ⟨P, in_T h ?_ ?_⟩, ?_, ?_⟩
      · rw [c1, c3]
        rfl
      · dsimp only
        rw [c2]
        have : (ov_up (ov_up S 3 n (nI b)) 2 1 (nI (n + 1))) 42 2 = nI n := by rw [up_n1 (by decide), up_n1 (by decide), n2]
        rw [up_n2 (show 2 ≠ 0 by decide), this, if_neg (show ¬ nI n = 60 from nI_ne (b := 60) (by omega) (by omega) (by omega)), ov_ck_t (ib_nI n60 (by omega)), nI_clamp (by omega), nI_1, up_eq]
      · exact agL_tr (agL_up rfl) (agL_tr (agL_up rfl) (agL_tr (agL_up rfl) (agL_tr (agL_up rfl) (agL_up rfl))))
      · refine ⟨by rw [up_eq, up_n1 (by decide), up_n1 (by decide), up_n1 (by decide), up_eq], ⟨n + 1, by omega, up_eq⟩, fun j hj => ?_⟩
        obtain ⟨f1, f2⟩ := e3 j hj
        have g1 : ov_up (ov_up (ov_up (ov_up (ov_up S 3 n (nI b)) 2 1 (nI (n + 1))) 42 0 0) 43 n (nI b)) 42 2 (nI (n + 1)) 3 j = pu (S 3) n (nI b) j := by
          rw [up_n1 (by decide), up_n1 (by decide), up_n1 (by decide), up_n1 (by decide), up_pu]
        have g2 : ov_up (ov_up (ov_up (ov_up (ov_up S 3 n (nI b)) 2 1 (nI (n + 1))) 42 0 0) 43 n (nI b)) 42 2 (nI (n + 1)) 43 j = pu (S 43) n (nI b) j := by
          rw [up_n1 (by decide), up_pu, up_n1 (by decide), up_n1 (by decide), up_n1 (by decide)]
        rw [g1, g2]
        by_cases q : j = n
        · rw [q, pu_eq, pu_eq]
          exact ⟨rfl, b, hb, rfl⟩
        · rw [pu_ne q, pu_ne q]
          exact ⟨f1, f2⟩
      · rw [up_0 (by decide), up_0 (by decide)]
      · rw [up_0 (by decide), up_0 (by decide), up_0 (by decide), up_0 (by decide), up_0 (by decide)]
    · have n60' : n = 60 := by omega
      subst n60'
      have c3 : f13 S (nI b) = some ((0 : Int32), S) := by
        unfold f13
        rw [e1, if_neg (by decide)]
      refine ⟨-4, S, ov_up S 42 0 0, ?_, ?_, ⟨P, hI⟩, rfl, up_0 (by decide)⟩
      · rw [c1, c3]
        rfl
      · dsimp only
        rw [c2, up_n2 (show 2 ≠ 0 by decide), n2, if_pos (show nI 60 = 60 from rfl)]
theorem c_wipe (h : in_P S G P) : ok2 S G (f15 S) (fun T => f145 T) := by
  obtain ⟨e1, ⟨n, n1, n2⟩, e3⟩ := h.1
  rw [n2] at e1
  refine ⟨nI n, ov_up S 2 1 0, ov_up (ov_up (ov_up S 2 1 0) 42 0 0) 42 2 0, ?_, ?_, ⟨P, in_T h ?_ ?_⟩, up_0 (by decide), ?_⟩
  · unfold f15 f14 f16
    rw [Option.bind_some, Option.bind_some, e1]
  · dsimp only
    unfold f145
    rw [up_n2 (show 2 ≠ 0 by decide), up_n1 (show 42 ≠ 2 by decide), n2]
  · exact agL_tr (agL_up rfl) (agL_tr (agL_up rfl) (agL_up rfl))
  · refine ⟨by rw [up_eq, up_n1 (by decide), up_n1 (by decide), up_eq], ⟨0, by omega, up_eq⟩, fun j hj => ?_⟩
    rw [up_n1 (by decide), up_n1 (by decide), up_n1 (by decide), up_n1 (by decide), up_n1 (by decide), up_n1 (by decide)]
    exact e3 j hj
  · rw [up_0 (by decide), up_0 (by decide), up_0 (by decide)]
theorem c_untread (h : in_P S G P) : ok2 S G (f125 S) (fun T => f216 T) := by
  obtain ⟨t, t1, t2, t3, t4⟩ := h.2.2.2.2.2.1
  refine ⟨nI t, ov_up S 28 2 0, ov_up (ov_up (ov_up S 28 2 0) 42 0 0) 42 30 0, ?_, ?_, ⟨P, in_D h ?_ ?_⟩, up_0 (by decide), ?_⟩
  · unfold f125 f56 f126
    rw [Option.bind_some, Option.bind_some, t2]
  · dsimp only
    unfold f216
    rw [up_n2 (show 30 ≠ 0 by decide), up_n1 (show 42 ≠ 28 by decide), t3]
  · exact agL_tr (agL_up rfl) (agL_tr (agL_up rfl) (agL_up rfl))
  · exact ⟨0, by omega, by rw [up_n1 (by decide), up_n1 (by decide), up_eq]; rfl, up_eq, fun j hj => absurd hj (Nat.not_lt_zero _)⟩
  · rw [up_0 (by decide), up_0 (by decide), up_0 (by decide)]
theorem c_tread (h : in_P S G P) (x y : Int32) : ok2 S G (f123 S x y) (fun T => f215 T x y) := by
  have hI := in_t0 h
  obtain ⟨t, t1, t2, t3, t4⟩ := h.2.2.2.2.2.1
  have bad : ∀ r, f123 S x y = some (r, S) → f215 S x y = some (r, ov_up S 42 0 0) → ok2 S G (f123 S x y) (fun T => f215 T x y) := fun r h1 h2 => ⟨r, S, _, h1, h2, ⟨P, hI⟩, rfl, up_0 (by decide)⟩
  have nocell : (x < 0 ∨ nI 18 ≤ x) → ok2 S G (f123 S x y) (fun T => f215 T x y) := fun hx => by
    refine bad (-1) ?_ ?_
    · unfold f123
      rw [s49o hx, Option.bind_some, if_pos rfl]
    · unfold f215
      rw [s193n hx, Option.bind_some, if_neg (by decide)]
  rcases pk_ix x (n := 18) (by omega) with hx | hx | ⟨c, hc, rfl⟩
  · exact nocell (.inl hx)
  · exact nocell (.inr hx)
  · have nom : (y < 0 ∨ nI 10 ≤ y) → ok2 S G (f123 S (nI c) y) (fun T => f215 T (nI c) y) := fun hy => by
      refine bad (-2) ?_ ?_
      · unfold f123
        rw [s49i hc, Option.bind_some, if_neg (by decide)]
        by_cases h0 : y < 0
        · rw [if_pos h0]
        · have h1 := hy.resolve_left h0
          have : ¬ y ≤ (9 : Int32) := fun q => by
            have a := Int32.le_iff_toInt_le.mp h1
            have b := Int32.le_iff_toInt_le.mp q
            rw [nI_toInt (by omega)] at a
            rw [show (9 : Int32) = nI 9 from rfl, nI_toInt (by omega)] at b
            omega
          rw [if_neg h0, if_neg this]
      · unfold f215
        rw [s193 hc, Option.bind_some, if_pos rfl, show (9 : Int64) = (9 : Int32).toInt64 from rfl, s144z (n := 9) 9 rfl (by omega) hy]
        rfl
    rcases pk_ix y (n := 10) (by omega) with hy | hy | ⟨m, hm, rfl⟩
    · exact nom (.inl hy)
    · exact nom (.inr hy)
    · have c1 : f123 S (nI c) (nI m) = (f124 S (nI c) (nI m)).bind fun y2 => (if y2.1 = 0 then some ((-4 : Int32), y2.2) else (f56 y2.2).bind fun y3 => some (y3, y2.2)) := by
        unfold f123
        rw [s49i hc, Option.bind_some, if_neg (by decide), if_neg (nI_l0 (by omega)), show (9 : Int32) = nI 9 from rfl, if_pos (le_nI (by omega) (by omega))]
      have c2 : ∀ T, f215 T (nI c) (nI m) = (if T 42 30 = (6 : Int32) then some ((-4 : Int32), (ov_up T 42 0 (0 : Int32))) else ov_ck (ov_ibb (T 42 30) 6) (ov_ck (ov_ibb (T 42 30) 6) (some ((ov_up (ov_up (ov_up (ov_up T 42 0 (0 : Int32)) 61 (T 42 30).toNatClampNeg (nI c)) 62 (T 42 30).toNatClampNeg (nI m)) 42 30 (T 42 30 + (1 : Int32))) 42 30, (ov_up (ov_up (ov_up (ov_up T 42 0 (0 : Int32)) 61 (T 42 30).toNatClampNeg (nI c)) 62 (T 42 30).toNatClampNeg (nI m)) 42 30 (T 42 30 + (1 : Int32))))))) := by
        intro T
        unfold f215
        rw [s193 hc, Option.bind_some, if_pos rfl, show (9 : Int64) = (9 : Int32).toInt64 from rfl, s144y (n := 9) 9 rfl (by omega) (by omega), Option.bind_some, if_neg (by decide)]
        rfl
      by_cases t6 : t < 6
      · have c3 : f124 S (nI c) (nI m) = some ((1 : Int32), ov_up (ov_up (ov_up S 29 t (nI c)) 30 t (nI m)) 28 2 (nI (t + 1))) := by
          show (if (S 28 2) < (6 : Int32) then ov_ck (ov_ibb (S 28 2) 6) (ov_ck (ov_ibb (S 28 2) 6) (some ((1 : Int32), (ov_up (ov_up (ov_up S 29 (S 28 2).toNatClampNeg (nI c)) 30 (S 28 2).toNatClampNeg (nI m)) 28 2 (S 28 2 + (1 : Int32)))))) else some ((0 : Int32), S)) = _
          rw [t2, show (6 : Int32) = nI 6 from rfl, if_pos (lt_nI t6 (by omega)), ov_ck_t (ib_nI t6 (by omega)), ov_ck_t (ib_nI t6 (by omega)), nI_clamp (by omega), nI_1]
        refine ⟨nI (t + 1), ov_up (ov_up (ov_up S 29 t (nI c)) 30 t (nI m)) 28 2 (nI (t + 1)), ov_up (ov_up (ov_up (ov_up (ov_up (ov_up (ov_up S 29 t (nI c)) 30 t (nI m)) 28 2 (nI (t + 1))) 42 0 0) 61 t (nI c)) 62 t (nI m)) 42 30 (nI (t + 1)), ?_, ?_, ⟨P, in_D h ?_ ?_⟩, ?_, ?_⟩
        · rw [c1, c3]
          rfl
        · dsimp only
          rw [c2]
          have : (ov_up (ov_up (ov_up S 29 t (nI c)) 30 t (nI m)) 28 2 (nI (t + 1))) 42 30 = nI t := by rw [up_n1 (by decide), up_n1 (by decide), up_n1 (by decide), t3]
          rw [this, if_neg (show ¬ nI t = 6 from nI_ne (b := 6) (by omega) (by omega) (by omega)), ov_ck_t (ib_nI t6 (by omega)), ov_ck_t (ib_nI t6 (by omega)), nI_clamp (by omega), nI_1, up_eq]
        · exact agL_tr (agL_up rfl) (agL_tr (agL_up rfl) (agL_tr (agL_up rfl) (agL_tr (agL_up rfl) (agL_tr (agL_up rfl) (agL_tr (agL_up rfl) (agL_up rfl))))))
        · refine ⟨t + 1, by omega, ?_, up_eq, fun j hj => ?_⟩
          · rw [up_n1 (by decide), up_n1 (by decide), up_n1 (by decide), up_n1 (by decide), up_eq]
          · have g1 : ov_up (ov_up (ov_up (ov_up (ov_up (ov_up (ov_up S 29 t (nI c)) 30 t (nI m)) 28 2 (nI (t + 1))) 42 0 0) 61 t (nI c)) 62 t (nI m)) 42 30 (nI (t + 1)) 29 j = pu (S 29) t (nI c) j := by
              rw [up_n1 (by decide), up_n1 (by decide), up_n1 (by decide), up_n1 (by decide), up_n1 (by decide), up_n1 (by decide), up_pu]
            have g2 : ov_up (ov_up (ov_up (ov_up (ov_up (ov_up (ov_up S 29 t (nI c)) 30 t (nI m)) 28 2 (nI (t + 1))) 42 0 0) 61 t (nI c)) 62 t (nI m)) 42 30 (nI (t + 1)) 30 j = pu (S 30) t (nI m) j := by
              rw [up_n1 (by decide), up_n1 (by decide), up_n1 (by decide), up_n1 (by decide), up_n1 (by decide), up_pu, up_n1 (by decide)]
            have g3 : ov_up (ov_up (ov_up (ov_up (ov_up (ov_up (ov_up S 29 t (nI c)) 30 t (nI m)) 28 2 (nI (t + 1))) 42 0 0) 61 t (nI c)) 62 t (nI m)) 42 30 (nI (t + 1)) 61 j = pu (S 61) t (nI c) j := by
              rw [up_n1 (by decide), up_n1 (by decide), up_pu, up_n1 (by decide), up_n1 (by decide), up_n1 (by decide), up_n1 (by decide)]
            have g4 : ov_up (ov_up (ov_up (ov_up (ov_up (ov_up (ov_up S 29 t (nI c)) 30 t (nI m)) 28 2 (nI (t + 1))) 42 0 0) 61 t (nI c)) 62 t (nI m)) 42 30 (nI (t + 1)) 62 j = pu (S 62) t (nI m) j := by
              rw [up_n1 (by decide), up_pu, up_n1 (by decide), up_n1 (by decide), up_n1 (by decide), up_n1 (by decide), up_n1 (by decide)]
            rw [g1, g2, g3, g4]
            by_cases q : j = t
            · rw [q, pu_eq, pu_eq, pu_eq, pu_eq]
              exact ⟨c, m, hc, by omega, rfl, rfl, rfl, rfl⟩
            · rw [pu_ne q, pu_ne q, pu_ne q, pu_ne q]
              exact t4 j (by omega)
        · rw [up_0 (by decide), up_0 (by decide), up_0 (by decide)]
        · rw [up_0 (by decide), up_0 (by decide), up_0 (by decide), up_0 (by decide), up_0 (by decide), up_0 (by decide), up_0 (by decide)]
      · have t6' : t = 6 := by omega
        subst t6'
        refine bad (-4) ?_ ?_
        · rw [c1]
          unfold f124
          rw [t2, if_neg (by decide)]
          rfl
        · rw [c2, t3, if_pos (show nI 6 = 6 from rfl)]
end
