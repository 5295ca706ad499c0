-- THE HEAP WHILE THE LAW RUNS: numbers in S, the two seeds in G, all else fixed
def ov_st : List (List Nat) := [[], [4, 6, 13, 20, 23, 26, 30, 33, 34, 37, 0, 1], [5, 0], [],
  [0, 0, 0, 0, 7, 8, 9, 10, 11, 12, 0, 0], [], [], [], [], [], [],
  [0, 0, 0, 0, 14, 15, 16, 17, 18, 19, 0, 0], [], [], [], [], [], [],
  [6, 21, 22, 0, 0], [], [], [6, 24, 25, 0, 0], [], [],
  [27, 28, 29, 0], [], [], [], [31, 32, 0], [], [], [6, 23, 0, 0],
  [6, 20, 23, 35, 36, 0, 0], [], [], [38, 41], [6, 39, 40, 0, 0], [], [], [6, 42, 43, 0, 0], [], [],
  [0, 45, 0, 0, 0, 46, 0, 0, 47, 48, 0, 49, 50, 0, 51, 0, 52, 0, 53, 54, 0, 55, 56, 57, 58, 59, 60, 0, 61, 62, 0, 63, 64, 1, 65, 0, 0, 0, 66, 0, 0, 67, 68]]
def ov_cd (a k : Nat) : Nat := (ov_st.getD a []).getD k 0
abbrev ov_S : Type := Nat → Nat → Int32
abbrev ov_L2 : Type := Nat → Int64
def ov_vv (S : ov_S) (G : ov_L2) (a k : Nat) : Value := match ov_cd a k with
  | 0 => .int (S a k)
  | 1 => .long (G a)
  | r + 2 => .ref r
def ov_mm (L : Nat) (S : ov_S) (G : ov_L2) : ov_Mem := ((9, 0, L) :: ov_sht, ov_vv S G)
def ov_up (S : ov_S) (a k : Nat) (x : Int32) : ov_S := fun i j => if i = a ∧ j = k then x else S i j
def ov_ug (G : ov_L2) (a : Nat) (x : Int64) : ov_L2 := fun i => if i = a then x else G i
def ov_R (L d M : Nat) (as : List Value) (S : ov_S) (G : ov_L2) (rv : Option Value) (S' : ov_S) (G' : ov_L2) : Prop := ov_C d M as (ov_mm L S G) rv (ov_mm L S' G')
-- fewer known locals
def ov_le : List (Option Value) → List (Option Value) → Prop
  | [], [] => True
  | none :: r, _ :: s => ov_le r s
  | some v :: r, o :: s => o = some v ∧ ov_le r s
  | _, _ => False
theorem ov_le_rf : ∀ l : List (Option Value), ov_le l l
  | [] => trivial
  | none :: r => ov_le_rf r
  | some _ :: r => ⟨rfl, ov_le_rf r⟩
theorem ov_le_tr : ∀ {a b c : List (Option Value)}, ov_le a b → ov_le b c → ov_le a c
  | [], [], [], _, _ => trivial
  | none :: a, none :: b, o :: c, h1, h2 => ov_le_tr (a := a) (b := b) (c := c) h1 h2
  | none :: a, some v :: b, o :: c, h1, h2 => ov_le_tr (a := a) (b := b) (c := c) h1 h2.2
  | some v :: a, o :: b, o' :: c, h1, h2 => by
    obtain ⟨e, h1⟩ := h1
    subst e
    exact ⟨h2.1, ov_le_tr h1 h2.2⟩
theorem ov_le_len : ∀ {a b : List (Option Value)}, ov_le a b → a.length = b.length
  | [], [], _ => rfl
  | none :: a, o :: b, h => by simp [ov_le_len (a := a) (b := b) h]
  | some v :: a, o :: b, h => by simp [ov_le_len h.2]
theorem ov_le_get : ∀ {a b : List (Option Value)} (k : Nat) {v : Value}, ov_le a b → a.getD k none = some v → b.getD k none = some v
  | [], [], k, v, _, h => by simp at h
  | none :: a, o :: b, 0, v, _, h => by simp at h
  | none :: a, o :: b, k + 1, v, h1, h => by
    simp only [List.getD_cons_succ] at h ⊢
    exact ov_le_get (a := a) (b := b) k h1 h
  | some w :: a, o :: b, 0, v, h1, h => by
    simp only [List.getD_cons_zero] at h ⊢
    exact h1.1.trans h
  | some w :: a, o :: b, k + 1, v, h1, h => by
    simp only [List.getD_cons_succ] at h ⊢
    exact ov_le_get k h1.2 h
theorem ov_le_cut {a b : List (Option Value)} (w : Bool) (h : ov_le a b) : ov_le (ov_cut w a) (ov_cut w b) := by
  cases w with
  | false => cases a <;> cases b <;> exact h
  | true =>
    match a, b, h with
    | [], [], h => exact h
    | none :: a, o :: b, h => exact h
    | some v :: a, o :: b, h => exact h.2
theorem ov_le_cs (x : Option Value) {a b : List (Option Value)} (h : ov_le a b) : ov_le (x :: a) (x :: b) := by
  cases x with
  | none => exact h
  | some v => exact ⟨rfl, h⟩
theorem ov_le_ls : ∀ {a b : List (Option Value)} (k : Nat) (v : Value), ov_le a b → ov_le (ov_ls a k v) (ov_ls b k v)
  | [], [], k, v, _ => trivial
  | none :: a, o :: b, 0, v, h => ⟨rfl, ov_le_cut _ h⟩
  | some w :: a, o :: b, 0, v, h => ⟨rfl, ov_le_cut _ h.2⟩
  | none :: a, o :: b, k + 1, v, h => by
    show ov_le ((match k, ov_two none with | 0, true => none | _, _ => none) :: ov_ls a k v) (_ :: ov_ls b k v)
    have e : (match k, ov_two none with | 0, true => none | _, _ => (none : Option Value)) = none := by cases k <;> rfl
    rw [e]
    exact ov_le_ls (a := a) (b := b) k v h
  | some w :: a, o :: b, k + 1, v, h => by
    obtain ⟨e, h⟩ := h
    subst e
    exact ov_le_cs _ (ov_le_ls k v h)
-- the judgement: from here the method comes to an answer that P tells
def ov_J (L d M pc : Nat) (lv : List (Option Value)) (st : List Value) (S : ov_S) (G : ov_L2) (P : Option Value → ov_S → ov_L2 → Prop) : Prop :=
  ∀ lv', ov_le lv lv' → ∃ (k : Nat) (x : ov_Cfg) (rv : Option Value) (S' : ov_S) (G' : ov_L2), ov_N (ov_C d) M k (pc, lv', st, ov_mm L S G) x ∧ ov_ret M x = some rv ∧ x.2.2.2 = ov_mm L S' G' ∧ P rv S' G'
section ov_E
variable {L d M pc : Nat} {lv : List (Option Value)} {st : List Value} {S S1 : ov_S} {G G1 : ov_L2} {P : Option Value → ov_S → ov_L2 → Prop}
theorem ev_fg {lv0 : List (Option Value)} (h : ov_le lv0 lv) (kk : ov_J L d M pc lv0 st S G P) : ov_J L d M pc lv st S G P := fun lv' hl => kk lv' (ov_le_tr h hl)
theorem ev_ret {rv : Option Value} (h : ∀ lv', ov_ret M (pc, lv', st, ov_mm L S G) = some rv) (hP : P rv S G) : ov_J L d M pc lv st S G P := fun lv' _ => ⟨0, _, rv, S, G, rfl, h lv', rfl, hP⟩
theorem ev_st {pc' : Nat} {st' : List Value} (h : ∀ lv', ov_step M (pc, lv', st, ov_mm L S G) = some (pc', lv', st', ov_mm L S1 G1)) (kk : ov_J L d M pc' lv st' S1 G1 P) : ov_J L d M pc lv st S G P := by
  intro lv' hl
  obtain ⟨k, x, rv, S', G', h1, h2⟩ := kk lv' hl
  exact ⟨k + 1, x, rv, S', G', ⟨_, Or.inl (h lv'), h1⟩, h2⟩
theorem ev_stk {pc' k : Nat} {v : Value} {st' : List Value} (h : ∀ lv', ov_le lv lv' → ov_step M (pc, lv', st, ov_mm L S G) = some (pc', ov_ls lv' k v, st', ov_mm L S G)) (kk : ov_J L d M pc' (ov_ls lv k v) st' S G P) : ov_J L d M pc lv st S G P := by
  intro lv' hl
  obtain ⟨n, x, rv, S', G', h1, h2⟩ := kk _ (ov_le_ls k v hl)
  exact ⟨n + 1, x, rv, S', G', ⟨_, Or.inl (h lv' hl), h1⟩, h2⟩
theorem ev_ld {pc' : Nat} {st' : List Value} (h : ∀ lv', ov_le lv lv' → ov_step M (pc, lv', st, ov_mm L S G) = some (pc', lv', st', ov_mm L S G)) (kk : ov_J L d M pc' lv st' S G P) : ov_J L d M pc lv st S G P := by
  intro lv' hl
  obtain ⟨k, x, rv, S', G', h1, h2⟩ := kk lv' hl
  exact ⟨k + 1, x, rv, S', G', ⟨_, Or.inl (h lv' hl), h1⟩, h2⟩
theorem ov_sd {i : Instr} {n : Nat} {μ : ov_Mem} (hd : decode (ov_byt M) pc = .ok (i, n)) (hb : (ov_sw i || Nat.beq n (ov_len i)) = true) : ov_step M (pc, lv, st, μ) = ov_step1 (ov_oc M) (ov_ini M) i pc lv st μ := by
  unfold ov_step
  dsimp only
  rw [hd]
  dsimp only
  rw [hb]
  rfl
/-- a plain instruction: no local is read or written -/
theorem ev_i {i : Instr} {n pc' : Nat} {st' : List Value} (hd : decode (ov_byt M) pc = .ok (i, n)) (hb : (ov_sw i || Nat.beq n (ov_len i)) = true) (h : ∀ lv', ov_step1 (ov_oc M) (ov_ini M) i pc lv' st (ov_mm L S G) = some (pc', lv', st', ov_mm L S1 G1)) (kk : ov_J L d M pc' lv st' S1 G1 P) : ov_J L d M pc lv st S G P :=
  ev_st (fun lv' => (ov_sd hd hb).trans (h lv')) kk
theorem ev_iconst {k : Int} {v : Int32} (hd : decode (ov_byt M) pc = .ok (.iconst k, 1)) (hv : Int32.ofInt k = v) (kk : ov_J L d M (pc + 1) lv (.int v :: st) S G P) : ov_J L d M pc lv (st) S G P := ev_i hd rfl (fun _ => by subst hv; rfl) kk
theorem ev_bipush {k : Int} {v : Int32} (hd : decode (ov_byt M) pc = .ok (.bipush k, 2)) (hv : (Int8.ofInt k).toInt32 = v) (kk : ov_J L d M (pc + 2) lv (.int v :: st) S G P) : ov_J L d M pc lv (st) S G P := ev_i hd rfl (fun _ => by subst hv; rfl) kk
theorem ev_sipush {k : Int} {v : Int32} (hd : decode (ov_byt M) pc = .ok (.sipush k, 3)) (hv : (Int16.ofInt k).toInt32 = v) (kk : ov_J L d M (pc + 3) lv (.int v :: st) S G P) : ov_J L d M pc lv (st) S G P := ev_i hd rfl (fun _ => by subst hv; rfl) kk
theorem ev_lconst {k : Fin 2} {v : Int64} (hd : decode (ov_byt M) pc = .ok (.lconst k, 1)) (hv : Int64.ofNat (k : Nat) = v) (kk : ov_J L d M (pc + 1) lv (.long v :: st) S G P) : ov_J L d M pc lv (st) S G P := ev_i hd rfl (fun _ => by subst hv; rfl) kk
theorem ev_iadd {x y : Int32} (hd : decode (ov_byt M) pc = .ok (.iadd, 1)) (kk : ov_J L d M (pc + 1) lv (.int (x + y) :: st) S G P) : ov_J L d M pc lv (.int y :: .int x :: st) S G P := ev_i hd rfl (fun _ => rfl) kk
theorem ev_isub {x y : Int32} (hd : decode (ov_byt M) pc = .ok (.isub, 1)) (kk : ov_J L d M (pc + 1) lv (.int (x - y) :: st) S G P) : ov_J L d M pc lv (.int y :: .int x :: st) S G P := ev_i hd rfl (fun _ => rfl) kk
theorem ev_imul {x y : Int32} (hd : decode (ov_byt M) pc = .ok (.imul, 1)) (kk : ov_J L d M (pc + 1) lv (.int (x * y) :: st) S G P) : ov_J L d M pc lv (.int y :: .int x :: st) S G P := ev_i hd rfl (fun _ => rfl) kk
theorem ev_iand {x y : Int32} (hd : decode (ov_byt M) pc = .ok (.iand, 1)) (kk : ov_J L d M (pc + 1) lv (.int (x &&& y) :: st) S G P) : ov_J L d M pc lv (.int y :: .int x :: st) S G P := ev_i hd rfl (fun _ => rfl) kk
theorem ev_ior {x y : Int32} (hd : decode (ov_byt M) pc = .ok (.ior, 1)) (kk : ov_J L d M (pc + 1) lv (.int (x ||| y) :: st) S G P) : ov_J L d M pc lv (.int y :: .int x :: st) S G P := ev_i hd rfl (fun _ => rfl) kk
theorem ev_ixor {x y : Int32} (hd : decode (ov_byt M) pc = .ok (.ixor, 1)) (kk : ov_J L d M (pc + 1) lv (.int (x ^^^ y) :: st) S G P) : ov_J L d M pc lv (.int y :: .int x :: st) S G P := ev_i hd rfl (fun _ => rfl) kk
theorem ev_ishl {x y : Int32} (hd : decode (ov_byt M) pc = .ok (.ishl, 1)) (kk : ov_J L d M (pc + 1) lv (.int (x <<< (y &&& 31)) :: st) S G P) : ov_J L d M pc lv (.int y :: .int x :: st) S G P := ev_i hd rfl (fun _ => rfl) kk
theorem ev_ishr {x y : Int32} (hd : decode (ov_byt M) pc = .ok (.ishr, 1)) (kk : ov_J L d M (pc + 1) lv (.int (x >>> (y &&& 31)) :: st) S G P) : ov_J L d M pc lv (.int y :: .int x :: st) S G P := ev_i hd rfl (fun _ => rfl) kk
theorem ev_iushr {x y : Int32} (hd : decode (ov_byt M) pc = .ok (.iushr, 1)) (kk : ov_J L d M (pc + 1) lv (.int ((x.toUInt32 >>> (y.toUInt32 &&& Int32.toUInt32 31)).toInt32) :: st) S G P) : ov_J L d M pc lv (.int y :: .int x :: st) S G P := ev_i hd rfl (fun _ => rfl) kk
theorem ev_idiv {x y : Int32} (hd : decode (ov_byt M) pc = .ok (.idiv, 1)) (hy : ¬ y = 0) (kk : ov_J L d M (pc + 1) lv (.int (x / y) :: st) S G P) : ov_J L d M pc lv (.int y :: .int x :: st) S G P := ev_i hd rfl (fun _ => by simp only [ov_step1, ov_iz]; rw [if_neg hy]) kk
theorem ev_irem {x y : Int32} (hd : decode (ov_byt M) pc = .ok (.irem, 1)) (hy : ¬ y = 0) (kk : ov_J L d M (pc + 1) lv (.int (x - x / y * y) :: st) S G P) : ov_J L d M pc lv (.int y :: .int x :: st) S G P := ev_i hd rfl (fun _ => by simp only [ov_step1, ov_iz]; rw [if_neg hy]) kk
theorem ev_ladd {x y : Int64} (hd : decode (ov_byt M) pc = .ok (.ladd, 1)) (kk : ov_J L d M (pc + 1) lv (.long (x + y) :: st) S G P) : ov_J L d M pc lv (.long y :: .long x :: st) S G P := ev_i hd rfl (fun _ => rfl) kk
theorem ev_lsub {x y : Int64} (hd : decode (ov_byt M) pc = .ok (.lsub, 1)) (kk : ov_J L d M (pc + 1) lv (.long (x - y) :: st) S G P) : ov_J L d M pc lv (.long y :: .long x :: st) S G P := ev_i hd rfl (fun _ => rfl) kk
theorem ev_lmul {x y : Int64} (hd : decode (ov_byt M) pc = .ok (.lmul, 1)) (kk : ov_J L d M (pc + 1) lv (.long (x * y) :: st) S G P) : ov_J L d M pc lv (.long y :: .long x :: st) S G P := ev_i hd rfl (fun _ => rfl) kk
theorem ev_land {x y : Int64} (hd : decode (ov_byt M) pc = .ok (.land, 1)) (kk : ov_J L d M (pc + 1) lv (.long (x &&& y) :: st) S G P) : ov_J L d M pc lv (.long y :: .long x :: st) S G P := ev_i hd rfl (fun _ => rfl) kk
theorem ev_lor {x y : Int64} (hd : decode (ov_byt M) pc = .ok (.lor, 1)) (kk : ov_J L d M (pc + 1) lv (.long (x ||| y) :: st) S G P) : ov_J L d M pc lv (.long y :: .long x :: st) S G P := ev_i hd rfl (fun _ => rfl) kk
theorem ev_ldiv {x y : Int64} (hd : decode (ov_byt M) pc = .ok (.ldiv, 1)) (hy : ¬ y = 0) (kk : ov_J L d M (pc + 1) lv (.long (x / y) :: st) S G P) : ov_J L d M pc lv (.long y :: .long x :: st) S G P := ev_i hd rfl (fun _ => by simp only [ov_step1, ov_lz]; rw [if_neg hy]) kk
theorem ev_lrem {x y : Int64} (hd : decode (ov_byt M) pc = .ok (.lrem, 1)) (hy : ¬ y = 0) (kk : ov_J L d M (pc + 1) lv (.long (x - x / y * y) :: st) S G P) : ov_J L d M pc lv (.long y :: .long x :: st) S G P := ev_i hd rfl (fun _ => by simp only [ov_step1, ov_lz]; rw [if_neg hy]) kk
theorem ev_ineg {x : Int32} (hd : decode (ov_byt M) pc = .ok (.ineg, 1)) (kk : ov_J L d M (pc + 1) lv (.int (-x) :: st) S G P) : ov_J L d M pc lv (.int x :: st) S G P := ev_i hd rfl (fun _ => rfl) kk
theorem ev_lneg {x : Int64} (hd : decode (ov_byt M) pc = .ok (.lneg, 1)) (kk : ov_J L d M (pc + 1) lv (.long (-x) :: st) S G P) : ov_J L d M pc lv (.long x :: st) S G P := ev_i hd rfl (fun _ => rfl) kk
theorem ev_i2l {x : Int32} (hd : decode (ov_byt M) pc = .ok (.i2l, 1)) (kk : ov_J L d M (pc + 1) lv (.long x.toInt64 :: st) S G P) : ov_J L d M pc lv (.int x :: st) S G P := ev_i hd rfl (fun _ => rfl) kk
theorem ev_l2i {x : Int64} (hd : decode (ov_byt M) pc = .ok (.l2i, 1)) (kk : ov_J L d M (pc + 1) lv (.int x.toInt32 :: st) S G P) : ov_J L d M pc lv (.long x :: st) S G P := ev_i hd rfl (fun _ => rfl) kk
theorem ev_lshl {x : Int64} {y : Int32} (hd : decode (ov_byt M) pc = .ok (.lshl, 1)) (kk : ov_J L d M (pc + 1) lv (.long (x <<< (y.toInt64 &&& 63)) :: st) S G P) : ov_J L d M pc lv (.int y :: .long x :: st) S G P := ev_i hd rfl (fun _ => rfl) kk
theorem ev_lushr {x : Int64} {y : Int32} (hd : decode (ov_byt M) pc = .ok (.lushr, 1)) (kk : ov_J L d M (pc + 1) lv (.long ((x.toUInt64 >>> (y.toInt64.toUInt64 &&& Int64.toUInt64 63)).toInt64) :: st) S G P) : ov_J L d M pc lv (.int y :: .long x :: st) S G P := ev_i hd rfl (fun _ => rfl) kk
theorem ev_lcmp {x y : Int64} (hd : decode (ov_byt M) pc = .ok (.lcmp, 1)) (kk : ov_J L d M (pc + 1) lv (.int (lg_cmp x y) :: st) S G P) : ov_J L d M pc lv (.long y :: .long x :: st) S G P := ev_i hd rfl (fun _ => rfl) kk
theorem ev_dup {v : Value} (hd : decode (ov_byt M) pc = .ok (.dup, 1)) (hv : v.category = 1) (kk : ov_J L d M (pc + 1) lv (v :: v :: st) S G P) : ov_J L d M pc lv (v :: st) S G P := ev_i hd rfl (fun _ => by simp only [ov_step1, ov_dup]; rw [if_pos hv]) kk
theorem ev_dup2 {v w : Value} (hd : decode (ov_byt M) pc = .ok (.dup2, 1)) (hv : v.category = 1) (hw : w.category = 1) (kk : ov_J L d M (pc + 1) lv (v :: w :: v :: w :: st) S G P) : ov_J L d M pc lv (v :: w :: st) S G P := ev_i hd rfl (fun _ => by simp only [ov_step1, ov_dup2]; rw [if_pos hv, if_pos hw]) kk
theorem ev_pop {v : Value} (hd : decode (ov_byt M) pc = .ok (.pop, 1)) (hv : v.category = 1) (kk : ov_J L d M (pc + 1) lv st S G P) : ov_J L d M pc lv (v :: st) S G P := ev_i hd rfl (fun _ => by simp only [ov_step1, ov_pop]; rw [if_pos hv]) kk
theorem ov_tg_of {pc t : Nat} {off : Int} (h : (pc : Int) + off = (t : Int)) : ov_tg pc off = some t := by
  unfold ov_tg
  rw [if_neg (by omega), h]
  rfl
theorem ev_goto {off : Int} {t : Nat} (hd : decode (ov_byt M) pc = .ok (.goto off, 3)) (ht : (pc : Int) + off = (t : Int)) (kk : ov_J L d M t lv st S G P) : ov_J L d M pc lv st S G P := ev_i hd rfl (fun _ => by show ov_go _ _ _ _ _ = _; unfold ov_go; rw [ov_tg_of ht]) kk
theorem ev_if_eq {x : Int32} {off : Int} {t : Nat} (hd : decode (ov_byt M) pc = .ok (.ifCond .eq off, 3)) (ht : (pc : Int) + off = (t : Int)) (kt : x = 0 → ov_J L d M t lv st S G P) (kf : ¬ x = 0 → ov_J L d M (pc + 3) lv st S G P) : ov_J L d M pc lv (.int x :: st) S G P := by
  by_cases hc : x = 0
  · refine ev_i (pc' := t) (st' := st) hd rfl (fun _ => ?_) (kt hc)
    show ov_if _ _ _ _ _ _ = _
    unfold ov_if
    rw [ov_tg_of ht]
    have e : ov_cc .eq x 0 = true := by simp [ov_cc, hc]
    simp only [e, cond_true, cond_false]
  · refine ev_i (pc' := (pc + 3)) (st' := st) hd rfl (fun _ => ?_) (kf hc)
    show ov_if _ _ _ _ _ _ = _
    unfold ov_if
    rw [ov_tg_of ht]
    have e : ov_cc .eq x 0 = false := by simp [ov_cc, hc]
    simp only [e, cond_true, cond_false]
theorem ev_icmp_eq {x y : Int32} {off : Int} {t : Nat} (hd : decode (ov_byt M) pc = .ok (.if_icmp .eq off, 3)) (ht : (pc : Int) + off = (t : Int)) (kt : x = y → ov_J L d M t lv st S G P) (kf : ¬ x = y → ov_J L d M (pc + 3) lv st S G P) : ov_J L d M pc lv (.int y :: .int x :: st) S G P := by
  by_cases hc : x = y
  · refine ev_i (pc' := t) (st' := st) hd rfl (fun _ => ?_) (kt hc)
    show ov_cmp _ _ _ _ _ _ = _
    unfold ov_cmp
    rw [ov_tg_of ht]
    have e : ov_cc .eq x y = true := by simp [ov_cc, hc]
    simp only [e, cond_true, cond_false]
  · refine ev_i (pc' := (pc + 3)) (st' := st) hd rfl (fun _ => ?_) (kf hc)
    show ov_cmp _ _ _ _ _ _ = _
    unfold ov_cmp
    rw [ov_tg_of ht]
    have e : ov_cc .eq x y = false := by simp [ov_cc, hc]
    simp only [e, cond_true, cond_false]
theorem ev_if_ne {x : Int32} {off : Int} {t : Nat} (hd : decode (ov_byt M) pc = .ok (.ifCond .ne off, 3)) (ht : (pc : Int) + off = (t : Int)) (kt : ¬ x = 0 → ov_J L d M t lv st S G P) (kf : x = 0 → ov_J L d M (pc + 3) lv st S G P) : ov_J L d M pc lv (.int x :: st) S G P := by
  by_cases hc : x = 0
  · refine ev_i (pc' := (pc + 3)) (st' := st) hd rfl (fun _ => ?_) (kf hc)
    show ov_if _ _ _ _ _ _ = _
    unfold ov_if
    rw [ov_tg_of ht]
    have e : ov_cc .ne x 0 = false := by simp [ov_cc, hc]
    simp only [e, cond_true, cond_false]
  · refine ev_i (pc' := t) (st' := st) hd rfl (fun _ => ?_) (kt hc)
    show ov_if _ _ _ _ _ _ = _
    unfold ov_if
    rw [ov_tg_of ht]
    have e : ov_cc .ne x 0 = true := by simp [ov_cc, hc]
    simp only [e, cond_true, cond_false]
theorem ev_icmp_ne {x y : Int32} {off : Int} {t : Nat} (hd : decode (ov_byt M) pc = .ok (.if_icmp .ne off, 3)) (ht : (pc : Int) + off = (t : Int)) (kt : ¬ x = y → ov_J L d M t lv st S G P) (kf : x = y → ov_J L d M (pc + 3) lv st S G P) : ov_J L d M pc lv (.int y :: .int x :: st) S G P := by
  by_cases hc : x = y
  · refine ev_i (pc' := (pc + 3)) (st' := st) hd rfl (fun _ => ?_) (kf hc)
    show ov_cmp _ _ _ _ _ _ = _
    unfold ov_cmp
    rw [ov_tg_of ht]
    have e : ov_cc .ne x y = false := by simp [ov_cc, hc]
    simp only [e, cond_true, cond_false]
  · refine ev_i (pc' := t) (st' := st) hd rfl (fun _ => ?_) (kt hc)
    show ov_cmp _ _ _ _ _ _ = _
    unfold ov_cmp
    rw [ov_tg_of ht]
    have e : ov_cc .ne x y = true := by simp [ov_cc, hc]
    simp only [e, cond_true, cond_false]
theorem ev_if_lt {x : Int32} {off : Int} {t : Nat} (hd : decode (ov_byt M) pc = .ok (.ifCond .lt off, 3)) (ht : (pc : Int) + off = (t : Int)) (kt : x < 0 → ov_J L d M t lv st S G P) (kf : ¬ x < 0 → ov_J L d M (pc + 3) lv st S G P) : ov_J L d M pc lv (.int x :: st) S G P := by
  by_cases hc : x < 0
  · refine ev_i (pc' := t) (st' := st) hd rfl (fun _ => ?_) (kt hc)
    show ov_if _ _ _ _ _ _ = _
    unfold ov_if
    rw [ov_tg_of ht]
    have e : ov_cc .lt x 0 = true := by simp [ov_cc, hc]
    simp only [e, cond_true, cond_false]
  · refine ev_i (pc' := (pc + 3)) (st' := st) hd rfl (fun _ => ?_) (kf hc)
    show ov_if _ _ _ _ _ _ = _
    unfold ov_if
    rw [ov_tg_of ht]
    have e : ov_cc .lt x 0 = false := by simp [ov_cc, hc]
    simp only [e, cond_true, cond_false]
theorem ev_icmp_lt {x y : Int32} {off : Int} {t : Nat} (hd : decode (ov_byt M) pc = .ok (.if_icmp .lt off, 3)) (ht : (pc : Int) + off = (t : Int)) (kt : x < y → ov_J L d M t lv st S G P) (kf : ¬ x < y → ov_J L d M (pc + 3) lv st S G P) : ov_J L d M pc lv (.int y :: .int x :: st) S G P := by
  by_cases hc : x < y
  · refine ev_i (pc' := t) (st' := st) hd rfl (fun _ => ?_) (kt hc)
    show ov_cmp _ _ _ _ _ _ = _
    unfold ov_cmp
    rw [ov_tg_of ht]
    have e : ov_cc .lt x y = true := by simp [ov_cc, hc]
    simp only [e, cond_true, cond_false]
  · refine ev_i (pc' := (pc + 3)) (st' := st) hd rfl (fun _ => ?_) (kf hc)
    show ov_cmp _ _ _ _ _ _ = _
    unfold ov_cmp
    rw [ov_tg_of ht]
    have e : ov_cc .lt x y = false := by simp [ov_cc, hc]
    simp only [e, cond_true, cond_false]
theorem ev_if_ge {x : Int32} {off : Int} {t : Nat} (hd : decode (ov_byt M) pc = .ok (.ifCond .ge off, 3)) (ht : (pc : Int) + off = (t : Int)) (kt : 0 ≤ x → ov_J L d M t lv st S G P) (kf : ¬ 0 ≤ x → ov_J L d M (pc + 3) lv st S G P) : ov_J L d M pc lv (.int x :: st) S G P := by
  by_cases hc : 0 ≤ x
  · refine ev_i (pc' := t) (st' := st) hd rfl (fun _ => ?_) (kt hc)
    show ov_if _ _ _ _ _ _ = _
    unfold ov_if
    rw [ov_tg_of ht]
    have e : ov_cc .ge x 0 = true := by simp [ov_cc, hc]
    simp only [e, cond_true, cond_false]
  · refine ev_i (pc' := (pc + 3)) (st' := st) hd rfl (fun _ => ?_) (kf hc)
    show ov_if _ _ _ _ _ _ = _
    unfold ov_if
    rw [ov_tg_of ht]
    have e : ov_cc .ge x 0 = false := by simp [ov_cc, hc]
    simp only [e, cond_true, cond_false]
theorem ev_icmp_ge {x y : Int32} {off : Int} {t : Nat} (hd : decode (ov_byt M) pc = .ok (.if_icmp .ge off, 3)) (ht : (pc : Int) + off = (t : Int)) (kt : y ≤ x → ov_J L d M t lv st S G P) (kf : ¬ y ≤ x → ov_J L d M (pc + 3) lv st S G P) : ov_J L d M pc lv (.int y :: .int x :: st) S G P := by
  by_cases hc : y ≤ x
  · refine ev_i (pc' := t) (st' := st) hd rfl (fun _ => ?_) (kt hc)
    show ov_cmp _ _ _ _ _ _ = _
    unfold ov_cmp
    rw [ov_tg_of ht]
    have e : ov_cc .ge x y = true := by simp [ov_cc, hc]
    simp only [e, cond_true, cond_false]
  · refine ev_i (pc' := (pc + 3)) (st' := st) hd rfl (fun _ => ?_) (kf hc)
    show ov_cmp _ _ _ _ _ _ = _
    unfold ov_cmp
    rw [ov_tg_of ht]
    have e : ov_cc .ge x y = false := by simp [ov_cc, hc]
    simp only [e, cond_true, cond_false]
theorem ev_if_gt {x : Int32} {off : Int} {t : Nat} (hd : decode (ov_byt M) pc = .ok (.ifCond .gt off, 3)) (ht : (pc : Int) + off = (t : Int)) (kt : 0 < x → ov_J L d M t lv st S G P) (kf : ¬ 0 < x → ov_J L d M (pc + 3) lv st S G P) : ov_J L d M pc lv (.int x :: st) S G P := by
  by_cases hc : 0 < x
  · refine ev_i (pc' := t) (st' := st) hd rfl (fun _ => ?_) (kt hc)
    show ov_if _ _ _ _ _ _ = _
    unfold ov_if
    rw [ov_tg_of ht]
    have e : ov_cc .gt x 0 = true := by simp [ov_cc, hc]
    simp only [e, cond_true, cond_false]
  · refine ev_i (pc' := (pc + 3)) (st' := st) hd rfl (fun _ => ?_) (kf hc)
    show ov_if _ _ _ _ _ _ = _
    unfold ov_if
    rw [ov_tg_of ht]
    have e : ov_cc .gt x 0 = false := by simp [ov_cc, hc]
    simp only [e, cond_true, cond_false]
theorem ev_icmp_gt {x y : Int32} {off : Int} {t : Nat} (hd : decode (ov_byt M) pc = .ok (.if_icmp .gt off, 3)) (ht : (pc : Int) + off = (t : Int)) (kt : y < x → ov_J L d M t lv st S G P) (kf : ¬ y < x → ov_J L d M (pc + 3) lv st S G P) : ov_J L d M pc lv (.int y :: .int x :: st) S G P := by
  by_cases hc : y < x
  · refine ev_i (pc' := t) (st' := st) hd rfl (fun _ => ?_) (kt hc)
    show ov_cmp _ _ _ _ _ _ = _
    unfold ov_cmp
    rw [ov_tg_of ht]
    have e : ov_cc .gt x y = true := by simp [ov_cc, hc]
    simp only [e, cond_true, cond_false]
  · refine ev_i (pc' := (pc + 3)) (st' := st) hd rfl (fun _ => ?_) (kf hc)
    show ov_cmp _ _ _ _ _ _ = _
    unfold ov_cmp
    rw [ov_tg_of ht]
    have e : ov_cc .gt x y = false := by simp [ov_cc, hc]
    simp only [e, cond_true, cond_false]
theorem ev_if_le {x : Int32} {off : Int} {t : Nat} (hd : decode (ov_byt M) pc = .ok (.ifCond .le off, 3)) (ht : (pc : Int) + off = (t : Int)) (kt : x ≤ 0 → ov_J L d M t lv st S G P) (kf : ¬ x ≤ 0 → ov_J L d M (pc + 3) lv st S G P) : ov_J L d M pc lv (.int x :: st) S G P := by
  by_cases hc : x ≤ 0
  · refine ev_i (pc' := t) (st' := st) hd rfl (fun _ => ?_) (kt hc)
    show ov_if _ _ _ _ _ _ = _
    unfold ov_if
    rw [ov_tg_of ht]
    have e : ov_cc .le x 0 = true := by simp [ov_cc, hc]
    simp only [e, cond_true, cond_false]
  · refine ev_i (pc' := (pc + 3)) (st' := st) hd rfl (fun _ => ?_) (kf hc)
    show ov_if _ _ _ _ _ _ = _
    unfold ov_if
    rw [ov_tg_of ht]
    have e : ov_cc .le x 0 = false := by simp [ov_cc, hc]
    simp only [e, cond_true, cond_false]
theorem ev_icmp_le {x y : Int32} {off : Int} {t : Nat} (hd : decode (ov_byt M) pc = .ok (.if_icmp .le off, 3)) (ht : (pc : Int) + off = (t : Int)) (kt : x ≤ y → ov_J L d M t lv st S G P) (kf : ¬ x ≤ y → ov_J L d M (pc + 3) lv st S G P) : ov_J L d M pc lv (.int y :: .int x :: st) S G P := by
  by_cases hc : x ≤ y
  · refine ev_i (pc' := t) (st' := st) hd rfl (fun _ => ?_) (kt hc)
    show ov_cmp _ _ _ _ _ _ = _
    unfold ov_cmp
    rw [ov_tg_of ht]
    have e : ov_cc .le x y = true := by simp [ov_cc, hc]
    simp only [e, cond_true, cond_false]
  · refine ev_i (pc' := (pc + 3)) (st' := st) hd rfl (fun _ => ?_) (kf hc)
    show ov_cmp _ _ _ _ _ _ = _
    unfold ov_cmp
    rw [ov_tg_of ht]
    have e : ov_cc .le x y = false := by simp [ov_cc, hc]
    simp only [e, cond_true, cond_false]
theorem ev_ts {dd lo hi : Int} {offs : Array Int} {ln : Nat} {x : Int32} {off : Int} {t : Nat} (hd : decode (ov_byt M) pc = .ok (.tableswitch dd lo hi offs, ln)) (h : if x.toInt < lo ∨ hi < x.toInt then off = dd else offs[(x.toInt - lo).toNat]? = some off) (ht : (pc : Int) + off = (t : Int)) (kk : ov_J L d M t lv st S G P) : ov_J L d M pc lv (.int x :: st) S G P := by
  refine ev_i hd rfl (fun lv' => ?_) kk
  simp only [ov_step1, ov_ts, ov_go]
  split at h
  · rename_i hc
    subst h
    rw [if_pos hc, ov_tg_of ht]
  · rename_i hc
    rw [if_neg hc, h]
    dsimp only
    rw [ov_tg_of ht]
theorem ev_lk {dd : Int} {ps : Array (Int × Int)} {ln : Nat} {x : Int32} {off : Int} {t : Nat} (hd : decode (ov_byt M) pc = .ok (.lookupswitch dd ps, ln)) (hp : (ps.toList.zip (ps.toList.drop 1)).all (fun (a, next) => a.1 < next.1) = true) (h : Op.lookupswitch.offset ps.toList dd x.toInt = off) (ht : (pc : Int) + off = (t : Int)) (kk : ov_J L d M t lv st S G P) : ov_J L d M pc lv (.int x :: st) S G P := by
  refine ev_i hd rfl (fun lv' => ?_) kk
  simp only [ov_step1, ov_lk, ov_go]
  rw [if_pos hp, h, ov_tg_of ht]
theorem ev_ldc {idx : Nat} {v : Int32} {w : Nat} (hd : decode (ov_byt M) pc = .ok (.ldc idx, 2)) (hf : ov_find ov_kt (idx * 32 + ov_oc M) = some (v, w)) (kk : ov_J L d M (pc + 2) lv (.int v :: st) S G P) : ov_J L d M pc lv st S G P := ev_i hd rfl (fun _ => by show Option.map _ _ = _; rw [hf]; rfl) kk
theorem ev_ldc_w {idx : Nat} {v : Int32} {w : Nat} (hd : decode (ov_byt M) pc = .ok (.ldc_w idx, 3)) (hf : ov_find ov_kt (idx * 32 + ov_oc M) = some (v, w)) (kk : ov_J L d M (pc + 3) lv (.int v :: st) S G P) : ov_J L d M pc lv st S G P := ev_i hd rfl (fun _ => by show Option.map _ _ = _; rw [hf]; rfl) kk
theorem ev_ldc2_w {idx : Nat} {v : Int64} {w : Nat} (hd : decode (ov_byt M) pc = .ok (.ldc2_w idx, 3)) (hf : ov_find ov_k2t (idx * 32 + ov_oc M) = some (v, w)) (kk : ov_J L d M (pc + 3) lv (.long v :: st) S G P) : ov_J L d M pc lv st S G P := ev_i hd rfl (fun _ => by show Option.map _ _ = _; rw [hf]; rfl) kk
theorem ev_iload {k : Nat} {x : Int32} (hd : decode (ov_byt M) pc = .ok (.iload k, 2)) (hl : lv.getD k none = some (.int x)) (kk : ov_J L d M (pc + 2) lv (.int x :: st) S G P) : ov_J L d M pc lv st S G P :=
  ev_ld (fun lv' h => (ov_sd hd rfl).trans (by show ov_ldI _ _ _ _ _ _ = _; unfold ov_ldI; rw [ov_le_get _ h hl])) kk
theorem ev_istore {k : Nat} {x : Int32} {lv1 : List (Option Value)} (hd : decode (ov_byt M) pc = .ok (.istore k, 2)) (hk : Nat.blt (k) lv.length = true) (hl : ov_ls lv k (.int x) = lv1) (kk : ov_J L d M (pc + 2) lv1 st S G P) : ov_J L d M pc lv (.int x :: st) S G P := by
  subst hl
  refine ev_stk (fun lv' h => (ov_sd hd rfl).trans ?_) kk
  rw [ov_le_len h] at hk
  show ov_stI _ _ _ _ _ _ = _
  unfold ov_stI
  rw [hk]
theorem ev_iload_n {k : Fin 4} {x : Int32} (hd : decode (ov_byt M) pc = .ok (.iload_n k, 1)) (hl : lv.getD k none = some (.int x)) (kk : ov_J L d M (pc + 1) lv (.int x :: st) S G P) : ov_J L d M pc lv st S G P :=
  ev_ld (fun lv' h => (ov_sd hd rfl).trans (by show ov_ldI _ _ _ _ _ _ = _; unfold ov_ldI; rw [ov_le_get _ h hl])) kk
theorem ev_istore_n {k : Fin 4} {x : Int32} {lv1 : List (Option Value)} (hd : decode (ov_byt M) pc = .ok (.istore_n k, 1)) (hk : Nat.blt ((k : Nat)) lv.length = true) (hl : ov_ls lv k (.int x) = lv1) (kk : ov_J L d M (pc + 1) lv1 st S G P) : ov_J L d M pc lv (.int x :: st) S G P := by
  subst hl
  refine ev_stk (fun lv' h => (ov_sd hd rfl).trans ?_) kk
  rw [ov_le_len h] at hk
  show ov_stI _ _ _ _ _ _ = _
  unfold ov_stI
  rw [hk]
theorem ev_lload {k : Nat} {x : Int64} (hd : decode (ov_byt M) pc = .ok (.lload k, 2)) (hl : lv.getD k none = some (.long x)) (kk : ov_J L d M (pc + 2) lv (.long x :: st) S G P) : ov_J L d M pc lv st S G P :=
  ev_ld (fun lv' h => (ov_sd hd rfl).trans (by show ov_ldL _ _ _ _ _ _ = _; unfold ov_ldL; rw [ov_le_get _ h hl])) kk
theorem ev_lstore {k : Nat} {x : Int64} {lv1 : List (Option Value)} (hd : decode (ov_byt M) pc = .ok (.lstore k, 2)) (hk : Nat.blt (k + 1) lv.length = true) (hl : ov_ls lv k (.long x) = lv1) (kk : ov_J L d M (pc + 2) lv1 st S G P) : ov_J L d M pc lv (.long x :: st) S G P := by
  subst hl
  refine ev_stk (fun lv' h => (ov_sd hd rfl).trans ?_) kk
  rw [ov_le_len h] at hk
  show ov_stL _ _ _ _ _ _ = _
  unfold ov_stL
  rw [hk]
theorem ev_lload_n {k : Fin 4} {x : Int64} (hd : decode (ov_byt M) pc = .ok (.lload_n k, 1)) (hl : lv.getD k none = some (.long x)) (kk : ov_J L d M (pc + 1) lv (.long x :: st) S G P) : ov_J L d M pc lv st S G P :=
  ev_ld (fun lv' h => (ov_sd hd rfl).trans (by show ov_ldL _ _ _ _ _ _ = _; unfold ov_ldL; rw [ov_le_get _ h hl])) kk
theorem ev_lstore_n {k : Fin 4} {x : Int64} {lv1 : List (Option Value)} (hd : decode (ov_byt M) pc = .ok (.lstore_n k, 1)) (hk : Nat.blt ((k : Nat) + 1) lv.length = true) (hl : ov_ls lv k (.long x) = lv1) (kk : ov_J L d M (pc + 1) lv1 st S G P) : ov_J L d M pc lv (.long x :: st) S G P := by
  subst hl
  refine ev_stk (fun lv' h => (ov_sd hd rfl).trans ?_) kk
  rw [ov_le_len h] at hk
  show ov_stL _ _ _ _ _ _ = _
  unfold ov_stL
  rw [hk]
theorem ev_aload {k : Nat} {x : Nat} (hd : decode (ov_byt M) pc = .ok (.aload k, 2)) (hl : lv.getD k none = some (.ref x)) (kk : ov_J L d M (pc + 2) lv (.ref x :: st) S G P) : ov_J L d M pc lv st S G P :=
  ev_ld (fun lv' h => (ov_sd hd rfl).trans (by show ov_ldA _ _ _ _ _ _ = _; unfold ov_ldA; rw [ov_le_get _ h hl])) kk
theorem ev_astore {k : Nat} {x : Nat} {lv1 : List (Option Value)} (hd : decode (ov_byt M) pc = .ok (.astore k, 2)) (hk : Nat.blt (k) lv.length = true) (hl : ov_ls lv k (.ref x) = lv1) (kk : ov_J L d M (pc + 2) lv1 st S G P) : ov_J L d M pc lv (.ref x :: st) S G P := by
  subst hl
  refine ev_stk (fun lv' h => (ov_sd hd rfl).trans ?_) kk
  rw [ov_le_len h] at hk
  show ov_stA _ _ _ _ _ _ = _
  unfold ov_stA
  rw [hk]
theorem ev_aload_n {k : Fin 4} {x : Nat} (hd : decode (ov_byt M) pc = .ok (.aload_n k, 1)) (hl : lv.getD k none = some (.ref x)) (kk : ov_J L d M (pc + 1) lv (.ref x :: st) S G P) : ov_J L d M pc lv st S G P :=
  ev_ld (fun lv' h => (ov_sd hd rfl).trans (by show ov_ldA _ _ _ _ _ _ = _; unfold ov_ldA; rw [ov_le_get _ h hl])) kk
theorem ev_astore_n {k : Fin 4} {x : Nat} {lv1 : List (Option Value)} (hd : decode (ov_byt M) pc = .ok (.astore_n k, 1)) (hk : Nat.blt ((k : Nat)) lv.length = true) (hl : ov_ls lv k (.ref x) = lv1) (kk : ov_J L d M (pc + 1) lv1 st S G P) : ov_J L d M pc lv (.ref x :: st) S G P := by
  subst hl
  refine ev_stk (fun lv' h => (ov_sd hd rfl).trans ?_) kk
  rw [ov_le_len h] at hk
  show ov_stA _ _ _ _ _ _ = _
  unfold ov_stA
  rw [hk]
theorem ev_iinc {k : Nat} {n : Int} {x v : Int32} {lv1 : List (Option Value)} (hd : decode (ov_byt M) pc = .ok (.iinc k n, 3)) (hx : lv.getD k none = some (.int x)) (hv : x + Int32.ofInt n = v) (hl : ov_ls lv k (.int v) = lv1) (kk : ov_J L d M (pc + 3) lv1 st S G P) : ov_J L d M pc lv st S G P := by
  subst hl
  subst hv
  refine ev_stk (fun lv' h => (ov_sd hd rfl).trans ?_) kk
  show ov_inc _ _ _ _ _ _ = _
  unfold ov_inc
  rw [ov_le_get _ h hx]
-- fields and arrays
def ov_GF (M pc ci k : Nat) : Prop := ∃ (idx : Nat) (fin : Bool) (i : Nat), decode (ov_byt M) pc = .ok (.getfield idx, 3) ∧ ov_find ov_ft (idx * 32 + ov_oc M) = some (ci, k, fin, i)
def ov_PF (M pc ci k : Nat) : Prop := ∃ (idx : Nat) (i : Nat), decode (ov_byt M) pc = .ok (.putfield idx, 3) ∧ ov_find ov_ft (idx * 32 + ov_oc M) = some (ci, k, false, i)
def ov_O (a ci : Nat) : Prop := ∃ n, ov_sht[a - 1]? = some (0, ci, n) ∧ a ≠ 0
theorem ov_shO {a : Nat} {sh : ov_Sh} (h : ov_sht[a - 1]? = some sh) (h0 : a ≠ 0) : ((9, 0, L) :: ov_sht)[a]? = some sh := by
  cases a with
  | zero => exact absurd rfl h0
  | succ i => exact h
theorem ev_gf {a ci k : Nat} {v : Value} (hg : ov_GF M pc ci k) (ho : ov_O a ci) (hv : ov_vv S G a k = v) (kk : ov_J L d M (pc + 3) lv (v :: st) S G P) : ov_J L d M pc lv (.ref a :: st) S G P := by
  obtain ⟨idx, fin, i, hd, hf⟩ := hg
  obtain ⟨n, ho, h0⟩ := ho
  subst hv
  refine ev_i hd rfl (fun lv' => ?_) kk
  show ov_gf _ _ _ _ _ _ = _
  unfold ov_gf
  rw [hf]
  try dsimp only
  rw [show (ov_mm L S G).1[a]? = some (0, ci, n) from ov_shO ho h0]
  show (bif Nat.beq ci ci then some (pc + 3, lv', (ov_mm L S G).2 a k :: st, ov_mm L S G) else none) = _
  rw [Nat.beq_refl ci]
  rfl
theorem ov_updS {a k : Nat} {x : Int32} (h : ov_cd a k = 0) : ov_rp (ov_mm L S G) a (updV ((ov_mm L S G).2 a) k (.int x)) = ov_mm L (ov_up S a k x) G := by
  unfold ov_rp ov_mm
  congr 1
  funext i j
  try dsimp only
  by_cases hi : i = a
  · subst hi
    rw [if_pos rfl]
    unfold updV
    by_cases hj : j = k
    · subst hj
      rw [if_pos rfl]
      unfold ov_vv
      rw [h]
      try dsimp only
      unfold ov_up
      rw [if_pos ⟨rfl, rfl⟩]
    · rw [if_neg hj]
      unfold ov_vv ov_up
      rw [if_neg (fun q => hj q.2)]
  · rw [if_neg hi]
    unfold ov_vv ov_up
    rw [if_neg (fun q => hi q.1)]
theorem ov_updG {a k : Nat} {x : Int64} (h : ov_cd a k = 1) (h2 : ∀ j, ov_cd a j = 1 → j = k) : ov_rp (ov_mm L S G) a (updV ((ov_mm L S G).2 a) k (.long x)) = ov_mm L S (ov_ug G a x) := by
  unfold ov_rp ov_mm
  congr 1
  funext i j
  try dsimp only
  by_cases hi : i = a
  · subst hi
    rw [if_pos rfl]
    unfold updV
    by_cases hj : j = k
    · subst hj
      rw [if_pos rfl]
      unfold ov_vv
      rw [h]
      try dsimp only
      unfold ov_ug
      rw [if_pos rfl]
    · rw [if_neg hj]
      unfold ov_vv ov_ug
      cases hc : ov_cd i j with
      | zero => rfl
      | succ q =>
        cases q with
        | zero => exact absurd (h2 j hc) hj
        | succ q => rfl
  · rw [if_neg hi]
    unfold ov_vv ov_ug
    rw [if_neg hi]
theorem ev_pf {a ci k : Nat} {x : Int32} (hg : ov_PF M pc ci k) (ho : ov_O a ci) (hc : ov_cd a k = 0) (hty : ov_fit (ov_ty ci k) (.int 0) = true) (kk : ov_J L d M (pc + 3) lv st (ov_up S a k x) G P) : ov_J L d M pc lv (.int x :: .ref a :: st) S G P := by
  obtain ⟨idx, i, hd, hf⟩ := hg
  obtain ⟨n, ho, h0⟩ := ho
  refine ev_i hd rfl (fun lv' => ?_) kk
  show ov_pf _ _ _ _ _ _ _ = _
  unfold ov_pf
  rw [hf]
  try dsimp only
  have e : ov_fit (ov_ty ci k) (.int x) = true := by
    revert hty
    cases ov_ty ci k <;> intro h <;> exact h
  rw [show (ov_mm L S G).1[a]? = some (0, ci, n) from ov_shO ho h0]
  show (bif Nat.beq ci ci && ov_fit (ov_ty ci k) (.int x) && (!false || (ov_ini M && Nat.beq (ov_oc M) (ci + 1))) then some (pc + 3, lv', st, ov_rp (ov_mm L S G) a (updV ((ov_mm L S G).2 a) k (.int x))) else none) = _
  rw [Nat.beq_refl ci, e, ov_updS hc]
  rfl
theorem ev_pfl {a ci k : Nat} {x : Int64} (hg : ov_PF M pc ci k) (ho : ov_O a ci) (hc : ov_cd a k = 1) (h2 : ∀ j, ov_cd a j = 1 → j = k) (hty : ov_fit (ov_ty ci k) (.long 0) = true) (kk : ov_J L d M (pc + 3) lv st S (ov_ug G a x) P) : ov_J L d M pc lv (.long x :: .ref a :: st) S G P := by
  obtain ⟨idx, i, hd, hf⟩ := hg
  obtain ⟨n, ho, h0⟩ := ho
  refine ev_i hd rfl (fun lv' => ?_) kk
  show ov_pf _ _ _ _ _ _ _ = _
  unfold ov_pf
  rw [hf]
  try dsimp only
  have e : ov_fit (ov_ty ci k) (.long x) = true := by
    revert hty
    cases ov_ty ci k <;> intro h <;> exact h
  rw [show (ov_mm L S G).1[a]? = some (0, ci, n) from ov_shO ho h0]
  show (bif Nat.beq ci ci && ov_fit (ov_ty ci k) (.long x) && (!false || (ov_ini M && Nat.beq (ov_oc M) (ci + 1))) then some (pc + 3, lv', st, ov_rp (ov_mm L S G) a (updV ((ov_mm L S G).2 a) k (.long x))) else none) = _
  rw [Nat.beq_refl ci, e, ov_updG hc h2]
  rfl
def ov_ln (a : Nat) : Nat := (ov_sht.getD (a - 1) (0, 0, 0)).2.2
/-- an array of kind t -/
def ov_A (t a : Nat) : Prop := ov_sht[a - 1]? = some (t, 0, ov_ln a) ∧ a ≠ 0 ∧ ov_st.getD a [] = []
def ov_ib (j : Int32) (n : Nat) : Prop := ¬ (j < 0 ∨ n ≤ j.toNatClampNeg)
theorem ov_A.cd {t a : Nat} (h : ov_A t a) (k : Nat) : ov_cd a k = 0 := by
  unfold ov_cd
  rw [h.2.2]
  rfl
theorem ov_A.vv {t a : Nat} (h : ov_A t a) (k : Nat) : ov_vv S G a k = .int (S a k) := by
  unfold ov_vv
  rw [h.cd k]
theorem ov_rd_of {t a : Nat} {j : Int32} {lv' : List (Option Value)} (ha : ov_A t a) (hj : ov_ib j (ov_ln a)) : ov_rd t pc lv' (.int j :: .ref a :: st) (ov_mm L S G) = some (pc + 1, lv', .int (S a j.toNatClampNeg) :: st, ov_mm L S G) := by
  unfold ov_rd
  try dsimp only
  rw [show (ov_mm L S G).1[a]? = some (t, 0, ov_ln a) from ov_shO ha.1 ha.2.1]
  try dsimp only
  rw [if_pos rfl, if_neg hj, show (ov_mm L S G).2 a j.toNatClampNeg = .int (S a j.toNatClampNeg) from ha.vv _]
theorem ev_iald {a : Nat} {j : Int32} (hd : decode (ov_byt M) pc = .ok (.iaload, 1)) (ha : ov_A 1 a) (hj : ov_ib j (ov_ln a)) (kk : ov_J L d M (pc + 1) lv (.int (S a j.toNatClampNeg) :: st) S G P) : ov_J L d M pc lv (.int j :: .ref a :: st) S G P := by
  refine ev_i hd rfl (fun lv' => ?_) kk
  show ov_rdI _ _ _ _ = _
  unfold ov_rdI
  split
  · rename_i j' r h
    have h1 := (List.cons.inj (List.cons.inj h).2).1
    cases h1
    exact absurd rfl ha.2.1
  · exact ov_rd_of ha hj
theorem ev_bald {a : Nat} {j : Int32} (hd : decode (ov_byt M) pc = .ok (.baload, 1)) (ha : ov_A 2 a) (hj : ov_ib j (ov_ln a)) (kk : ov_J L d M (pc + 1) lv (.int (S a j.toNatClampNeg) :: st) S G P) : ov_J L d M pc lv (.int j :: .ref a :: st) S G P :=
  ev_i hd rfl (fun _ => ov_rd_of ha hj) kk
theorem ov_wr_of {t a : Nat} {j x : Int32} {v : Value} {f : Value → Option Value} {lv' : List (Option Value)} (ha : ov_A t a) (hj : ov_ib j (ov_ln a)) (hf : f v = some (.int x)) : ov_wr t f pc lv' (v :: .int j :: .ref a :: st) (ov_mm L S G) = some (pc + 1, lv', st, ov_mm L (ov_up S a j.toNatClampNeg x) G) := by
  unfold ov_wr
  try dsimp only
  rw [show (ov_mm L S G).1[a]? = some (t, 0, ov_ln a) from ov_shO ha.1 ha.2.1, hf]
  try dsimp only
  rw [if_pos rfl, if_neg hj, ov_updS (ha.cd _)]
theorem ev_iast {a : Nat} {j x : Int32} (hd : decode (ov_byt M) pc = .ok (.iastore, 1)) (ha : ov_A 1 a) (hj : ov_ib j (ov_ln a)) (kk : ov_J L d M (pc + 1) lv st (ov_up S a j.toNatClampNeg x) G P) : ov_J L d M pc lv (.int x :: .int j :: .ref a :: st) S G P :=
  ev_i hd rfl (fun _ => ov_wr_of ha hj rfl) kk
theorem ev_bast {a : Nat} {j x y : Int32} (hd : decode (ov_byt M) pc = .ok (.bastore, 1)) (ha : ov_A 2 a) (hj : ov_ib j (ov_ln a)) (hx : narrow .boolean (.int x) = .int y) (kk : ov_J L d M (pc + 1) lv st (ov_up S a j.toNatClampNeg y) G P) : ov_J L d M pc lv (.int x :: .int j :: .ref a :: st) S G P :=
  ev_i hd rfl (fun _ => ov_wr_of ha hj (congrArg some hx)) kk
theorem ev_aald {a r : Nat} {j : Int32} (hd : decode (ov_byt M) pc = .ok (.aaload, 1)) (ha : ov_sht[a - 1]? = some (3, 0, ov_ln a) ∧ a ≠ 0) (hj : ov_ib j (ov_ln a)) (hr : ov_vv S G a j.toNatClampNeg = .ref r) (kk : ov_J L d M (pc + 1) lv (.ref r :: st) S G P) : ov_J L d M pc lv (.int j :: .ref a :: st) S G P := by
  refine ev_i hd rfl (fun lv' => ?_) kk
  simp only [ov_step1, ov_rd]
  rw [show (ov_mm L S G).1[a]? = some (3, 0, ov_ln a) from ov_shO ha.1 ha.2]
  try dsimp only
  rw [if_pos rfl, if_neg hj, show (ov_mm L S G).2 a j.toNatClampNeg = .ref r from hr]
-- calls
def ov_CL (M pc kind y : Nat) : Prop := ∃ (idx : Nat) (w : Nat × Nat × Nat), (match kind with
  | 0 => decode (ov_byt M) pc = .ok (.invokestatic idx, 3)
  | _ => decode (ov_byt M) pc = .ok (.invokevirtual idx, 3)) ∧ ov_find ov_lt (idx * 32 + ov_oc M) = some (kind, y, w)
theorem ev_call {y : Nat} {as r : List Value} {rv : Option Value} (hi : ∀ lv', ov_inv M (pc, lv', st, ov_mm L S G) = some (y, as, r)) (hC : ov_R L d y as S G rv S1 G1) (kk : ov_J L d M (pc + 3) lv (rv.toList ++ r) S1 G1 P) : ov_J L d M pc lv st S G P := by
  intro lv' hl
  obtain ⟨k, x, rv', S', G', h1, h2⟩ := kk lv' hl
  exact ⟨k + 1, x, rv', S', G', ⟨_, Or.inr ⟨y, as, r, rv, _, hi lv', hC, rfl⟩, h1⟩, h2⟩
theorem ov_monoN {C C' : ov_CT} (h : ∀ y as μ rv μ', C y as μ rv μ' → C' y as μ rv μ') {M : Nat} : ∀ (k : Nat) (x z : ov_Cfg), ov_N C M k x z → ov_N C' M k x z
  | 0, _, _, hx => hx
  | k + 1, _, _, ⟨w, hI, hN⟩ => ⟨w, (match hI with
    | Or.inl a => Or.inl a
    | Or.inr ⟨y, as, r, rv, μ', h1, h2, h3⟩ => Or.inr ⟨y, as, r, rv, μ', h1, h _ _ _ _ _ h2, h3⟩), ov_monoN h k _ _ hN⟩
theorem ov_mono1 : ∀ (d : Nat) {y : Nat} {as : List Value} {μ : ov_Mem} {rv : Option Value} {μ' : ov_Mem}, ov_C d y as μ rv μ' → ov_C (d + 1) y as μ rv μ'
  | 0, _, _, _, _, _, h => h.elim
  | d + 1, _, _, _, _, _, ⟨k, x, hN, h2⟩ => ⟨k, x, ov_monoN (fun _ _ _ _ _ h => ov_mono1 d h) k _ _ hN, h2⟩
theorem ov_mono {d d' : Nat} (hd : d ≤ d') {y : Nat} {as : List Value} {μ : ov_Mem} {rv : Option Value} {μ' : ov_Mem} (h : ov_C d y as μ rv μ') : ov_C d' y as μ rv μ' := by
  induction hd with
  | refl => exact h
  | step _ ih => exact ov_mono1 _ ih
/-- a static call of n arguments -/
theorem ev_cs {y n dc : Nat} {as rest : List Value} {rv : Option Value} (hc : ov_CL M pc 0 y) (hn : ov_np y = n) (hst : st = as.reverse ++ rest) (hl : as.length = n) (hm : Nat.ble (ov_as as).length (ov_mx y) = true) (hr : Nat.ble (rest.map fun v => v.category).sum 8 = true) (hd : dc ≤ d) (hC : ov_R L dc y as S G rv S1 G1) (kk : ov_J L d M (pc + 3) lv (rv.toList ++ rest) S1 G1 P) : ov_J L d M pc lv st S G P := by
  obtain ⟨idx, w, hdec, hf⟩ := hc
  refine ev_call (y := y) (as := as) (r := rest) (fun lv' => ?_) (ov_mono hd hC) kk
  unfold ov_inv
  try dsimp only
  rw [show decode (ov_byt M) pc = .ok (.invokestatic idx, 3) from hdec]
  show ov_lkd M idx 0 st (ov_mm L S G) = _
  unfold ov_lkd
  rw [hf]
  try dsimp only
  have e1 : List.take n st = as.reverse := by rw [hst, List.take_append_of_le_length (by simp [hl])]; rw [List.take_of_length_le (by simp [hl])]
  have e2 : List.drop n st = rest := by rw [hst, List.drop_append_of_le_length (by simp [hl])]; rw [List.drop_of_length_le (by simp [hl])]; rfl
  have e3 : Nat.ble n st.length = true := Nat.ble_eq_true_of_le (by rw [hst]; simp [hl])
  unfold ov_ca
  rw [hn, e1, e2, List.reverse_reverse, e3]
  rw [show Nat.beq 0 0 = true from rfl]
  simp only [if_pos, Nat.sub_zero, hm, hr, Bool.and_self, cond_true]
/-- a call of n arguments of an object -/
theorem ev_cv {y n dc a c : Nat} {as rest : List Value} {rv : Option Value} (hc : ov_CL M pc 1 y) (hn : ov_np y = n) (hst : st = as.reverse ++ .ref a :: rest) (hl : as.length = n) (ho : ov_O a c) (hoc : Nat.beq (ov_oc y) (c + 1) = true) (hm : Nat.ble (ov_as as).length (ov_mx y - 1) = true) (h0 : Nat.blt 0 (ov_mx y) = true) (hr : Nat.ble (rest.map fun v => v.category).sum 8 = true) (hd : dc ≤ d) (hC : ov_R L dc y (.ref a :: as) S G rv S1 G1) (kk : ov_J L d M (pc + 3) lv (rv.toList ++ rest) S1 G1 P) : ov_J L d M pc lv st S G P := by
  obtain ⟨idx, w, hdec, hf⟩ := hc
  obtain ⟨sz, ho, ha0⟩ := ho
  refine ev_call (y := y) (as := .ref a :: as) (r := rest) (fun lv' => ?_) (ov_mono hd hC) kk
  unfold ov_inv
  try dsimp only
  rw [show decode (ov_byt M) pc = .ok (.invokevirtual idx, 3) from hdec]
  show ov_lkd M idx 1 st (ov_mm L S G) = _
  unfold ov_lkd
  rw [hf]
  try dsimp only
  have e1 : List.take n st = as.reverse := by rw [hst, List.take_append_of_le_length (by simp [hl])]; rw [List.take_of_length_le (by simp [hl])]
  have e2 : List.drop n st = .ref a :: rest := by rw [hst, List.drop_append_of_le_length (by simp [hl])]; rw [List.drop_of_length_le (by simp [hl])]; rfl
  have e3 : Nat.ble n st.length = true := Nat.ble_eq_true_of_le (by rw [hst]; simp [hl])
  cases a with
  | zero => exact absurd rfl ha0
  | succ i =>
    unfold ov_ca
    rw [hn, e1, e2, List.reverse_reverse, e3]
    rw [show Nat.beq 1 1 = true from rfl, show (if (1 : Nat) = 0 then 0 else 1) = 1 from rfl, hm]
    have e4 : (ov_mm L S G).1[i + 1]? = some (0, c, sz) := ho
    simp only [Bool.and_self, cond_true, e4, hoc, hr, h0]
/-- a method's run out of its body -/
theorem ov_Rof {as : List Value} {rv : Option Value} (h : ov_J L d M 0 (ov_as as ++ List.replicate (ov_mx M - (ov_as as).length) none) [] S G (fun r s g => r = rv ∧ s = S1 ∧ g = G1)) : ov_R L (d + 1) M as S G rv S1 G1 := by
  obtain ⟨k, x, rv', S', G', h1, h2, h3, rfl, rfl, rfl⟩ := h _ (ov_le_rf _)
  exact ⟨k, x, h1, h2, h3⟩
end ov_E
