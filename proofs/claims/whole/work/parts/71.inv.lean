-- WHAT HOLDS BETWEEN TWO CALLS
abbrev pg_g : Type := Nat → Int32
/-- a page of the reference is a page: parts at cells or off, stools at cells, all apart -/
def pg_V (g : pg_g) (N F : Nat) : Prop := (∀ k, k < 6 → g k = -9 ∨ ∃ c, c < 18 ∧ g k = nI c) ∧ (∀ k, N ≤ k → k < 6 → g k = -9) ∧ (∀ f, f < F → ∃ c, c < 18 ∧ g (7 + f) = nI c) ∧ (∃ m, m < 64 ∧ g 6 = nI m) ∧
  (∀ k j, k < 6 → j < 6 → k ≠ j → g k = g j → g k = -9) ∧ (∀ k f, k < 6 → f < F → g k ≠ g (7 + f))
/-- a stage of the program holds what a page says -/
def pg_E (S : ov_S) (a : Nat) (g : pg_g) (F : Nat) : Prop := (∀ k, k < 6 → S (a + 1) k = g k) ∧ (∀ f, f < 4 → S (a + 2) f = if f < F then g (7 + f) else -9) ∧ S a 3 = g 6
def in_txt (S : ov_S) : Prop := S 2 1 = S 42 2 ∧ (∃ n, n ≤ 60 ∧ S 42 2 = nI n) ∧ ∀ j, j < 60 → S 3 j = S 43 j ∧ ∃ b, b < 256 ∧ S 43 j = nI b
/-- the play as told: numbers, doors, weights, kinds, who says, who hears -/
abbrev pl_T : Type := Nat → Nat → Nat
def pD (P : pl_T) : Nat := P 0 0
def pF (P : pl_T) : Nat := P 0 1
def pN (P : pl_T) : Nat := P 0 2
def pL (P : pl_T) : Nat := P 0 3
def dr (P : pl_T) (d : Nat) : Nat := P 1 d
def wt (P : pl_T) (k : Nat) : Nat := P 2 k
def kd (P : pl_T) (k : Nat) : Nat := P 3 k
def sy (P : pl_T) (l : Nat) : Nat := P 4 l
def hr (P : pl_T) (l : Nat) : Nat := P 5 l
def pl_R (S : ov_S) (P : pl_T) : Prop := (pD P ≤ 3 ∧ pF P ≤ 4 ∧ pN P ≤ 6 ∧ pL P ≤ 6) ∧ (S 42 4 = nI (pD P) ∧ S 42 6 = nI (pF P) ∧ S 42 7 = nI (pN P) ∧ S 42 10 = nI (pL P)) ∧ (S 4 0 = nI (pD P) ∧ S 4 1 = nI (pF P) ∧ S 4 2 = nI (pN P) ∧ S 4 3 = nI (pL P)) ∧
  (∀ d, d < pD P → 12 ≤ dr P d ∧ dr P d < 18 ∧ S 44 d = nI (dr P d) ∧ S 5 d = nI (dr P d)) ∧ (∀ k, k < pN P → 1 ≤ wt P k ∧ wt P k ≤ 9 ∧ S 45 k = nI (wt P k) ∧ S 7 k = nI (wt P k)) ∧ (∀ k, k < pN P → kd P k ≤ 3 ∧ S 46 k = nI (kd P k) ∧ S 8 k = nI (kd P k)) ∧
  (∀ l, l < pL P → sy P l < pN P ∧ hr P l < pN P ∧ sy P l ≠ hr P l ∧ S 47 l = nI (sy P l) ∧ S 9 l = nI (sy P l) ∧ S 48 l = nI (hr P l) ∧ S 10 l = nI (hr P l)) ∧ S 4 10 = nI (mk (pN P) (fun k => decide (kd P k = 2)))
/-- the stage now -/
def in_now (S : ov_S) (N F : Nat) : Prop := pg_V (S 55) N F ∧ pg_E S 18 (S 55) F ∧ S 18 4 = S 55 11
/-- one act: the page before it out of the page behind it -/
def ac_B (q who fr : Int32) (g h : pg_g) (N F Ln : Nat) : Prop := h 11 = g 11 + 1 ∧
  ((q = 0 ∧ ∃ k, k < N ∧ who = nI k ∧ fr = g k ∧ ∀ j, j < 11 → j ≠ k → g j = h j) ∨
   (q = 1 ∧ ∃ l m, l < Ln ∧ who = nI l ∧ m < 64 ∧ g 6 = nI m ∧ m.testBit l = false ∧ h 6 = nI (m ||| 2 ^ l) ∧ ∀ j, j < 11 → j ≠ 6 → g j = h j) ∨
   (q = 2 ∧ ∃ f, f < F ∧ who = nI f ∧ fr = g (7 + f) ∧ ∀ j, j < 11 → j ≠ 7 + f → g j = h j))
def bk_g (S : ov_S) (i : Nat) : pg_g := fun j => S 58 (12 * i + j)
def in_acts (S : ov_S) (N F Ln : Nat) : Prop := ∃ A, A ≤ 14 ∧ S 24 3 = nI A ∧ S 42 27 = nI A ∧ ∀ i, i < A → pg_V (bk_g S i) N F ∧ ac_B (S 25 i) (S 26 i) (S 27 i) (bk_g S i) (if i + 1 = A then S 55 else bk_g S (i + 1)) N F Ln
def kp_g (S : ov_S) (s : Nat) : pg_g := fun j => S 59 (12 * s + j)
def in_kept (S : ov_S) (N F : Nat) : Prop := ∃ b0 b1 : Bool, S 1 10 = nI ((if b0 then 1 else 0) + (if b1 then 2 else 0)) ∧ S 60 0 = (if b0 then 1 else 0) ∧ S 60 1 = (if b1 then 1 else 0) ∧
  (b0 = true → pg_V (kp_g S 0) N F ∧ pg_E S 36 (kp_g S 0) F ∧ S 36 4 = kp_g S 0 11) ∧ (b1 = true → pg_V (kp_g S 1) N F ∧ pg_E S 39 (kp_g S 1) F ∧ S 39 4 = kp_g S 1 11)
def in_trod (S : ov_S) : Prop := ∃ t, t ≤ 6 ∧ S 28 2 = nI t ∧ S 42 30 = nI t ∧ ∀ j, j < t → ∃ c m, c < 18 ∧ m ≤ 9 ∧ S 29 j = nI c ∧ S 61 j = nI c ∧ S 30 j = nI m ∧ S 62 j = nI m
def in_P (S : ov_S) (G : ov_L2) (P : pl_T) : Prop := in_txt S ∧ pl_R S P ∧ in_now S (pN P) (pF P) ∧ in_acts S (pN P) (pF P) (pL P) ∧ in_kept S (pN P) (pF P) ∧ in_trod S ∧ G 1 = G 42
def in_I (S : ov_S) (G : ov_L2) : Prop := ∃ P, in_P S G P
-- what each part looks at
def lk_txt (a j : Nat) : Bool := (a == 2 && j == 1) || (a == 42 && j == 2) || a == 3 || a == 43
def lk_play (a j : Nat) : Bool := a == 44 || a == 45 || a == 46 || a == 47 || a == 48 || a == 5 || a == 7 || a == 8 || a == 9 || a == 10 || a == 4 || (a == 42 && (j == 4 || j == 6 || j == 7 || j == 10))
def lk_now (a j : Nat) : Bool := a == 55 || a == 18 || a == 19 || a == 20
def lk_acts (a j : Nat) : Bool := a == 24 || a == 25 || a == 26 || a == 27 || a == 58 || a == 55 || (a == 42 && j == 27)
def lk_kept (a j : Nat) : Bool := (a == 1 && j == 10) || a == 60 || a == 59 || a == 36 || a == 37 || a == 38 || a == 39 || a == 40 || a == 41
def lk_trod (a j : Nat) : Bool := a == 28 || a == 29 || a == 30 || a == 61 || a == 62 || (a == 42 && j == 30)
theorem cg_txt {S S' : ov_S} (h : ∀ a j, lk_txt a j = true → S' a j = S a j) (q : in_txt S) : in_txt S' := by
  have e3 : ∀ j, S' 3 j = S 3 j := fun j => h 3 j (by simp [lk_txt])
  have e43 : ∀ j, S' 43 j = S 43 j := fun j => h 43 j (by simp [lk_txt])
  unfold in_txt
  rw [h 2 1 (by simp [lk_txt]), h 42 2 (by simp [lk_txt])]
  simp only [e3, e43]
  exact q
theorem cg_play {S S' : ov_S} {P : pl_T} (h : ∀ a j, lk_play a j = true → S' a j = S a j) (q : pl_R S P) : pl_R S' P := by
  have e44 : ∀ j, S' 44 j = S 44 j := fun j => h 44 j (by simp [lk_play])
  have e45 : ∀ j, S' 45 j = S 45 j := fun j => h 45 j (by simp [lk_play])
  have e46 : ∀ j, S' 46 j = S 46 j := fun j => h 46 j (by simp [lk_play])
  have e47 : ∀ j, S' 47 j = S 47 j := fun j => h 47 j (by simp [lk_play])
  have e48 : ∀ j, S' 48 j = S 48 j := fun j => h 48 j (by simp [lk_play])
  have e4 : ∀ j, S' 4 j = S 4 j := fun j => h 4 j (by simp [lk_play])
  have e5 : ∀ j, S' 5 j = S 5 j := fun j => h 5 j (by simp [lk_play])
  have e7 : ∀ j, S' 7 j = S 7 j := fun j => h 7 j (by simp [lk_play])
  have e8 : ∀ j, S' 8 j = S 8 j := fun j => h 8 j (by simp [lk_play])
  have e9 : ∀ j, S' 9 j = S 9 j := fun j => h 9 j (by simp [lk_play])
  have e10 : ∀ j, S' 10 j = S 10 j := fun j => h 10 j (by simp [lk_play])
  unfold pl_R
  rw [h 42 4 (by simp [lk_play]), h 42 6 (by simp [lk_play]), h 42 7 (by simp [lk_play]), h 42 10 (by simp [lk_play])]
  simp only [e44, e45, e46, e47, e48, e4, e5, e7, e8, e9, e10]
  exact q
theorem cg_now {S S' : ov_S} {N F : Nat} (h : ∀ a j, lk_now a j = true → S' a j = S a j) (q : in_now S N F) : in_now S' N F := by
  have e55 : S' 55 = S 55 := funext fun j => h 55 j (by simp [lk_now])
  have e18 : ∀ j, S' 18 j = S 18 j := fun j => h 18 j (by simp [lk_now])
  have e19 : ∀ j, S' (18 + 1) j = S (18 + 1) j := fun j => h 19 j (by simp [lk_now])
  have e20 : ∀ j, S' (18 + 2) j = S (18 + 2) j := fun j => h 20 j (by simp [lk_now])
  unfold in_now pg_E
  rw [e55]
  simp only [e18, e19, e20]
  exact q
theorem cg_acts {S S' : ov_S} {N F Ln : Nat} (h : ∀ a j, lk_acts a j = true → S' a j = S a j) (q : in_acts S N F Ln) : in_acts S' N F Ln := by
  have e55 : S' 55 = S 55 := funext fun j => h 55 j (by simp [lk_acts])
  have eb : bk_g S' = bk_g S := funext fun i => funext fun j => h 58 _ (by simp [lk_acts])
  have e24 : ∀ j, S' 24 j = S 24 j := fun j => h 24 j (by simp [lk_acts])
  have e25 : ∀ j, S' 25 j = S 25 j := fun j => h 25 j (by simp [lk_acts])
  have e26 : ∀ j, S' 26 j = S 26 j := fun j => h 26 j (by simp [lk_acts])
  have e27 : ∀ j, S' 27 j = S 27 j := fun j => h 27 j (by simp [lk_acts])
  unfold in_acts
  rw [e55, eb, h 42 27 (by simp [lk_acts])]
  simp only [e24, e25, e26, e27]
  exact q
theorem cg_kept {S S' : ov_S} {N F : Nat} (h : ∀ a j, lk_kept a j = true → S' a j = S a j) (q : in_kept S N F) : in_kept S' N F := by
  have ek : kp_g S' = kp_g S := funext fun i => funext fun j => h 59 _ (by simp [lk_kept])
  have e36 : ∀ j, S' 36 j = S 36 j := fun j => h 36 j (by simp [lk_kept])
  have e37 : ∀ j, S' (36 + 1) j = S (36 + 1) j := fun j => h 37 j (by simp [lk_kept])
  have e38 : ∀ j, S' (36 + 2) j = S (36 + 2) j := fun j => h 38 j (by simp [lk_kept])
  have e39 : ∀ j, S' 39 j = S 39 j := fun j => h 39 j (by simp [lk_kept])
  have e40 : ∀ j, S' (39 + 1) j = S (39 + 1) j := fun j => h 40 j (by simp [lk_kept])
  have e41 : ∀ j, S' (39 + 2) j = S (39 + 2) j := fun j => h 41 j (by simp [lk_kept])
  have e60 : ∀ j, S' 60 j = S 60 j := fun j => h 60 j (by simp [lk_kept])
  unfold in_kept pg_E
  rw [ek, h 1 10 (by simp [lk_kept])]
  simp only [e36, e37, e38, e39, e40, e41, e60]
  exact q
theorem cg_trod {S S' : ov_S} (h : ∀ a j, lk_trod a j = true → S' a j = S a j) (q : in_trod S) : in_trod S' := by
  have e28 : ∀ j, S' 28 j = S 28 j := fun j => h 28 j (by simp [lk_trod])
  have e29 : ∀ j, S' 29 j = S 29 j := fun j => h 29 j (by simp [lk_trod])
  have e30 : ∀ j, S' 30 j = S 30 j := fun j => h 30 j (by simp [lk_trod])
  have e61 : ∀ j, S' 61 j = S 61 j := fun j => h 61 j (by simp [lk_trod])
  have e62 : ∀ j, S' 62 j = S 62 j := fun j => h 62 j (by simp [lk_trod])
  unfold in_trod
  rw [h 42 30 (by simp [lk_trod])]
  simp only [e28, e29, e30, e61, e62]
  exact q
/-- places that no later call reads before it writes -/
def sc_R (a j : Nat) : Bool := (11 ≤ a && a ≤ 17) || (21 ≤ a && a ≤ 23) || (31 ≤ a && a ≤ 34) || (49 ≤ a && a ≤ 54) || a == 56 || a == 57 || (63 ≤ a && a ≤ 66) || (a == 42 && (j == 0 || j == 3 || j == 13 || j == 15 || j == 17 || j == 20 || (35 ≤ j && j ≤ 40)))
def sm_S (S S' : ov_S) : Prop := ∀ a j, sc_R a j = false → S' a j = S a j
theorem sm_rf {S : ov_S} : sm_S S S := fun _ _ _ => rfl
theorem sm_tr {S S1 S2 : ov_S} (h : sm_S S S1) (h2 : sm_S S1 S2) : sm_S S S2 := fun a j q => (h2 a j q).trans (h a j q)
theorem sm_up {S : ov_S} {a k : Nat} {x : Int32} (h : sc_R a k = true) : sm_S S (ov_up S a k x) := fun i j q => by
  unfold ov_up
  split
  · rename_i c
    obtain ⟨rfl, rfl⟩ := c
    rw [h] at q
    cases q
  · rfl
theorem in_sm {S S' : ov_S} {G : ov_L2} {P : pl_T} (h : sm_S S S') (q : in_P S G P) : in_P S' G P := by
  obtain ⟨h1, h2, h3, h4, h5, h6, h7⟩ := q
  refine ⟨cg_txt (fun a j z => h a j ?_) h1, cg_play (fun a j z => h a j ?_) h2, cg_now (fun a j z => h a j ?_) h3, cg_acts (fun a j z => h a j ?_) h4, cg_kept (fun a j z => h a j ?_) h5, cg_trod (fun a j z => h a j ?_) h6, h7⟩ <;>
    · simp only [lk_txt, lk_play, lk_now, lk_acts, lk_kept, lk_trod, Bool.or_eq_true, Bool.and_eq_true, beq_iff_eq] at z
      unfold sc_R
      simp only [Bool.or_eq_false_iff, Bool.and_eq_false_iff, decide_eq_false_iff_not, beq_eq_false_iff_ne]
      omega
-- what a play says, one by one
theorem r_D3 {S : ov_S} {P : pl_T} (h : pl_R S P) : pD P ≤ 3 := h.1.1
theorem r_F4 {S : ov_S} {P : pl_T} (h : pl_R S P) : pF P ≤ 4 := h.1.2.1
theorem r_N6 {S : ov_S} {P : pl_T} (h : pl_R S P) : pN P ≤ 6 := h.1.2.2.1
theorem r_L6 {S : ov_S} {P : pl_T} (h : pl_R S P) : pL P ≤ 6 := h.1.2.2.2
theorem r_mD {S : ov_S} {P : pl_T} (h : pl_R S P) : S 42 4 = nI (pD P) := h.2.1.1
theorem r_mF {S : ov_S} {P : pl_T} (h : pl_R S P) : S 42 6 = nI (pF P) := h.2.1.2.1
theorem r_mN {S : ov_S} {P : pl_T} (h : pl_R S P) : S 42 7 = nI (pN P) := h.2.1.2.2.1
theorem r_mL {S : ov_S} {P : pl_T} (h : pl_R S P) : S 42 10 = nI (pL P) := h.2.1.2.2.2
theorem r_cD {S : ov_S} {P : pl_T} (h : pl_R S P) : S 4 0 = nI (pD P) := h.2.2.1.1
theorem r_cF {S : ov_S} {P : pl_T} (h : pl_R S P) : S 4 1 = nI (pF P) := h.2.2.1.2.1
theorem r_cN {S : ov_S} {P : pl_T} (h : pl_R S P) : S 4 2 = nI (pN P) := h.2.2.1.2.2.1
theorem r_cL {S : ov_S} {P : pl_T} (h : pl_R S P) : S 4 3 = nI (pL P) := h.2.2.1.2.2.2
theorem r_dr {S : ov_S} {P : pl_T} (h : pl_R S P) {d : Nat} (hd : d < pD P) : 12 ≤ dr P d ∧ dr P d < 18 := ⟨(h.2.2.2.1 d hd).1, (h.2.2.2.1 d hd).2.1⟩
theorem r_md {S : ov_S} {P : pl_T} (h : pl_R S P) {d : Nat} (hd : d < pD P) : S 44 d = nI (dr P d) := (h.2.2.2.1 d hd).2.2.1
theorem r_cd {S : ov_S} {P : pl_T} (h : pl_R S P) {d : Nat} (hd : d < pD P) : S 5 d = nI (dr P d) := (h.2.2.2.1 d hd).2.2.2
theorem r_wt {S : ov_S} {P : pl_T} (h : pl_R S P) {k : Nat} (hk : k < pN P) : 1 ≤ wt P k ∧ wt P k ≤ 9 := ⟨(h.2.2.2.2.1 k hk).1, (h.2.2.2.2.1 k hk).2.1⟩
theorem r_mw {S : ov_S} {P : pl_T} (h : pl_R S P) {k : Nat} (hk : k < pN P) : S 45 k = nI (wt P k) := (h.2.2.2.2.1 k hk).2.2.1
theorem r_cw {S : ov_S} {P : pl_T} (h : pl_R S P) {k : Nat} (hk : k < pN P) : S 7 k = nI (wt P k) := (h.2.2.2.2.1 k hk).2.2.2
theorem r_kd {S : ov_S} {P : pl_T} (h : pl_R S P) {k : Nat} (hk : k < pN P) : kd P k ≤ 3 := (h.2.2.2.2.2.1 k hk).1
theorem r_mk {S : ov_S} {P : pl_T} (h : pl_R S P) {k : Nat} (hk : k < pN P) : S 46 k = nI (kd P k) := (h.2.2.2.2.2.1 k hk).2.1
theorem r_ck {S : ov_S} {P : pl_T} (h : pl_R S P) {k : Nat} (hk : k < pN P) : S 8 k = nI (kd P k) := (h.2.2.2.2.2.1 k hk).2.2
theorem r_ln {S : ov_S} {P : pl_T} (h : pl_R S P) {l : Nat} (hl : l < pL P) : sy P l < pN P ∧ hr P l < pN P ∧ sy P l ≠ hr P l := ⟨(h.2.2.2.2.2.2.1 l hl).1, (h.2.2.2.2.2.2.1 l hl).2.1, (h.2.2.2.2.2.2.1 l hl).2.2.1⟩
theorem r_ms {S : ov_S} {P : pl_T} (h : pl_R S P) {l : Nat} (hl : l < pL P) : S 47 l = nI (sy P l) := (h.2.2.2.2.2.2.1 l hl).2.2.2.1
theorem r_cs {S : ov_S} {P : pl_T} (h : pl_R S P) {l : Nat} (hl : l < pL P) : S 9 l = nI (sy P l) := (h.2.2.2.2.2.2.1 l hl).2.2.2.2.1
theorem r_mh {S : ov_S} {P : pl_T} (h : pl_R S P) {l : Nat} (hl : l < pL P) : S 48 l = nI (hr P l) := (h.2.2.2.2.2.2.1 l hl).2.2.2.2.2.1
theorem r_ch {S : ov_S} {P : pl_T} (h : pl_R S P) {l : Nat} (hl : l < pL P) : S 10 l = nI (hr P l) := (h.2.2.2.2.2.2.1 l hl).2.2.2.2.2.2
/-- ghosts -/
def gm (P : pl_T) : Nat := mk (pN P) (fun k => decide (kd P k = 2))
theorem r_gm {S : ov_S} {P : pl_T} (h : pl_R S P) : S 4 10 = nI (gm P) := h.2.2.2.2.2.2.2
/-- a page of the reference holds g -/
def pg_M (S : ov_S) (p : Nat) (g : pg_g) : Prop := ov_ln p = 12 ∧ ∀ j, j < 12 → S p j = g j
-- writes
def pu (g : pg_g) (k : Nat) (x : Int32) : pg_g := fun j => if j = k then x else g j
theorem pu_eq {g : pg_g} {k : Nat} {x : Int32} : pu g k x k = x := if_pos rfl
theorem pu_ne {g : pg_g} {k j : Nat} {x : Int32} (h : j ≠ k) : pu g k x j = g j := if_neg h
theorem up_eq {S : ov_S} {a k : Nat} {x : Int32} : ov_up S a k x a k = x := if_pos ⟨rfl, rfl⟩
theorem up_n1 {S : ov_S} {a k i : Nat} {x : Int32} (h : i ≠ a) : ov_up S a k x i = S i := funext fun j => if_neg (fun q => h q.1)
theorem up_n2 {S : ov_S} {a k i j : Nat} {x : Int32} (h : j ≠ k) : ov_up S a k x i j = S i j := if_neg (fun q => h q.2)
theorem up_pu {S : ov_S} {a k : Nat} {x : Int32} : ov_up S a k x a = pu (S a) k x := funext fun j => by
  unfold ov_up pu
  by_cases h : j = k
  · rw [if_pos ⟨rfl, h⟩, if_pos h]
  · rw [if_neg (fun q => h q.2), if_neg h]
/-- only these cells may differ -/
def ag (l : List Nat) (S S' : ov_S) : Prop := ∀ i, i ∉ l → S' i = S i
theorem ag_rf {l : List Nat} {S : ov_S} : ag l S S := fun _ _ => rfl
theorem ag_tr {l : List Nat} {S S1 S2 : ov_S} (h : ag l S S1) (h2 : ag l S1 S2) : ag l S S2 := fun i q => (h2 i q).trans (h i q)
theorem ag_up {l : List Nat} {S : ov_S} {a k : Nat} {x : Int32} (h : a ∈ l) : ag l S (ov_up S a k x) := fun i q => up_n1 (fun e => q (e ▸ h))
theorem ag_mo {l l' : List Nat} {S S' : ov_S} (h : ag l S S') (q : ∀ i, i ∈ l → i ∈ l') : ag l' S S' := fun i z => h i (fun w => z (q i w))
theorem r_ag {l : List Nat} {S S' : ov_S} {P : pl_T} (h : pl_R S P) (a : ag l S S') (q : ∀ i, i ∈ [4, 5, 7, 8, 9, 10, 42, 44, 45, 46, 47, 48] → i ∉ l) : pl_R S' P := by
  refine cg_play (fun i j z => ?_) h
  have : i ∈ [4, 5, 7, 8, 9, 10, 42, 44, 45, 46, 47, 48] := by
    simp only [lk_play, Bool.or_eq_true, Bool.and_eq_true, beq_iff_eq] at z
    simp only [List.mem_cons, List.not_mem_nil, or_false]
    omega
  exact congrFun (a i (q i this)) j
theorem r_sm {S S' : ov_S} {P : pl_T} (h : pl_R S P) (a : sm_S S S') : pl_R S' P := by
  refine cg_play (fun i j z => a i j ?_) h
  simp only [lk_play, Bool.or_eq_true, Bool.and_eq_true, beq_iff_eq] at z
  unfold sc_R
  simp only [Bool.or_eq_false_iff, Bool.and_eq_false_iff, decide_eq_false_iff_not, beq_eq_false_iff_ne]
  omega
theorem sm_ag {l : List Nat} {S S' : ov_S} (a : ag l S S') (q : ∀ i, i ∈ l → ∀ j, sc_R i j = true) : sm_S S S' := fun i j z => congrFun (a i (fun w => by rw [q i w j] at z; cases z)) j
theorem M_pu {S : ov_S} {p k : Nat} {g : pg_g} {x : Int32} (h : pg_M S p g) : pg_M (ov_up S p k x) p (pu g k x) := ⟨h.1, fun j hj => by
  rw [up_pu]
  unfold pu
  by_cases e : j = k
  · rw [if_pos e, if_pos e]
  · rw [if_neg e, if_neg e, h.2 j hj]⟩
theorem M_n {S S' : ov_S} {p : Nat} {g : pg_g} (h : pg_M S p g) (e : S' p = S p) : pg_M S' p g := ⟨h.1, fun j hj => by rw [e]; exact h.2 j hj⟩
theorem M_ag {l : List Nat} {S S' : ov_S} {p : Nat} {g : pg_g} (h : pg_M S p g) (a : ag l S S') (q : p ∉ l) : pg_M S' p g := M_n h (a p q)
theorem E_n {S S' : ov_S} {a F : Nat} {g : pg_g} (h : pg_E S a g F) (e : S' a = S a) (e1 : S' (a + 1) = S (a + 1)) (e2 : S' (a + 2) = S (a + 2)) : pg_E S' a g F := by
  unfold pg_E
  rw [e, e1, e2]
  exact h
theorem E_pu {S : ov_S} {a k F : Nat} {g : pg_g} {x : Int32} (hk : k < 6) (h : pg_E S a g F) : pg_E (ov_up S (a + 1) k x) a (pu g k x) F := by
  refine ⟨fun j hj => ?_, fun f hf => ?_, ?_⟩
  · rw [up_pu]
    unfold pu
    by_cases e : j = k
    · rw [if_pos e, if_pos e]
    · rw [if_neg e, if_neg e, h.1 j hj]
  · rw [up_n1 (by omega), h.2.1 f hf, pu_ne (by omega)]
  · rw [up_n1 (by omega), h.2.2, pu_ne (by omega)]
