-- EACH INSTRUCTION: what the pure machine does, the machine does
def ov_W (p : Program) (l : Launch) (e : Env) (R : Room) (s : State) (m : MethodId) (args : Array Value) (below : List Frame) (meth : Method) (c : Code) (Q : State → Prop) (D : ov_G) (b h0 n0 z0 M : Nat) (x : ov_Cfg) : Prop :=
  ∀ (ls : Array Slot) (H : Heap) (locs : List Loc), ov_LV b h0 ls (ov_mx M) x.2.1 → ov_HP D b h0 s x.2.2.2 H → va_S (fun q => h0 ≤ q) s.heap H locs →
    W p l e R s m args below meth c H locs (x.2.2.2.1.length - n0) (ov_sz x.2.2.2.1 - z0) Q (F0 m x.1 ls (x.2.2.1.map (ov_cv b h0)))
def ov_X (p : Program) (s : State) (m : MethodId) (args : Array Value) (meth : Method) (c : Code) (D : ov_G) (M : Nat) : Prop :=
  p.tables.exec = Jvm.exec ∧ c.code = ov_byt M ∧ c.maxLocals = ov_mx M ∧ s.vm.findClass (ov_nm M).cls = some m.cls ∧ (∀ w ∈ ov_tt, w.before args s = true) ∧ ((ov_nm M).name = "<init>" → meth.name = "<init>") ∧ ov_KK D s
theorem ov_tg_eq {pc t : Nat} {off : Int} (h : ov_tg pc off = some t) : (pc : Int) + off = (t : Int) := by
  unfold ov_tg at h
  split at h
  · cases h
  · cases h
    omega
section ov_S
variable {p : Program} {l : Launch} {e : Env} {R : Room} {s : State} {m : MethodId} {args : Array Value} {below : List Frame} {meth : Method} {c : Code} {Q : State → Prop}
variable {D : ov_G} {b h0 n0 z0 M : Nat} {pc : Nat} {lv : List (Option Value)} {st : List Value} {μ : ov_Mem} {x' : ov_Cfg}
theorem ov_s_iconst (X : ov_X p s m args meth c D M) {k : Int} (hd : decode (ov_byt M) pc = .ok (.iconst k, 1)) (h : some ((pc + 1, lv, .int (Int32.ofInt k) :: st, μ) : ov_Cfg) = some x') (kk : ov_W p l e R s m args below meth c Q D b h0 n0 z0 M x') : ov_W p l e R s m args below meth c Q D b h0 n0 z0 M (pc, lv, st, μ) := by
  cases h
  intro ls H locs hl hH hS
  exact lv_iconst X.1 X.2.1 hd rfl (kk ls H locs hl hH hS)
theorem ov_s_bipush (X : ov_X p s m args meth c D M) {k : Int} (hd : decode (ov_byt M) pc = .ok (.bipush k, 2)) (h : some ((pc + 2, lv, .int (Int8.ofInt k).toInt32 :: st, μ) : ov_Cfg) = some x') (kk : ov_W p l e R s m args below meth c Q D b h0 n0 z0 M x') : ov_W p l e R s m args below meth c Q D b h0 n0 z0 M (pc, lv, st, μ) := by
  cases h
  intro ls H locs hl hH hS
  exact lv_bipush X.1 X.2.1 hd rfl (kk ls H locs hl hH hS)
theorem ov_s_sipush (X : ov_X p s m args meth c D M) {k : Int} (hd : decode (ov_byt M) pc = .ok (.sipush k, 3)) (h : some ((pc + 3, lv, .int (Int16.ofInt k).toInt32 :: st, μ) : ov_Cfg) = some x') (kk : ov_W p l e R s m args below meth c Q D b h0 n0 z0 M x') : ov_W p l e R s m args below meth c Q D b h0 n0 z0 M (pc, lv, st, μ) := by
  cases h
  intro ls H locs hl hH hS
  exact lv_sipush X.1 X.2.1 hd rfl (kk ls H locs hl hH hS)
theorem ov_s_lconst (X : ov_X p s m args meth c D M) {k : Fin 2} (hd : decode (ov_byt M) pc = .ok (.lconst k, 1)) (h : some ((pc + 1, lv, .long (Int64.ofNat (k : Nat)) :: st, μ) : ov_Cfg) = some x') (kk : ov_W p l e R s m args below meth c Q D b h0 n0 z0 M x') : ov_W p l e R s m args below meth c Q D b h0 n0 z0 M (pc, lv, st, μ) := by
  cases h
  intro ls H locs hl hH hS
  exact lv_lconst X.1 X.2.1 hd rfl (kk ls H locs hl hH hS)
theorem ov_s_iload (X : ov_X p s m args meth c D M) {k : Nat} (hd : decode (ov_byt M) pc = .ok (.iload k, 2)) (h : ov_ldI 2 k pc lv st μ = some x') (kk : ov_W p l e R s m args below meth c Q D b h0 n0 z0 M x') : ov_W p l e R s m args below meth c Q D b h0 n0 z0 M (pc, lv, st, μ) := by
  unfold ov_ldI at h
  split at h
  · rename_i x hx
    cases h
    intro ls H locs hl hH hS
    exact lv_iload X.1 X.2.1 hd (hl.get hx) (kk ls H locs hl hH hS)
  · cases h
theorem ov_s_istore (X : ov_X p s m args meth c D M) {k : Nat} (hd : decode (ov_byt M) pc = .ok (.istore k, 2)) (h : ov_stI 2 k pc lv st μ = some x') (kk : ov_W p l e R s m args below meth c Q D b h0 n0 z0 M x') : ov_W p l e R s m args below meth c Q D b h0 n0 z0 M (pc, lv, st, μ) := by
  unfold ov_stI at h
  split at h
  · rename_i x r hb
    cases h
    intro ls H locs hl hH hS
    have hk := Nat.le_of_ble_eq_true hb
    refine lv_istore X.1 X.2.1 hd hl.has (by rw [hl.2.2.1] at hk; omega) rfl (fun ls' hl' => ?_)
    exact kk ls' H locs (hl.st1 (v := .int x) hl') hH hS
  · cases h
theorem ov_s_iload_n (X : ov_X p s m args meth c D M) {k : Fin 4} (hd : decode (ov_byt M) pc = .ok (.iload_n k, 1)) (h : ov_ldI 1 k pc lv st μ = some x') (kk : ov_W p l e R s m args below meth c Q D b h0 n0 z0 M x') : ov_W p l e R s m args below meth c Q D b h0 n0 z0 M (pc, lv, st, μ) := by
  unfold ov_ldI at h
  split at h
  · rename_i x hx
    cases h
    intro ls H locs hl hH hS
    exact lv_iload_n X.1 X.2.1 hd rfl (hl.get hx) (kk ls H locs hl hH hS)
  · cases h
theorem ov_s_istore_n (X : ov_X p s m args meth c D M) {k : Fin 4} (hd : decode (ov_byt M) pc = .ok (.istore_n k, 1)) (h : ov_stI 1 k pc lv st μ = some x') (kk : ov_W p l e R s m args below meth c Q D b h0 n0 z0 M x') : ov_W p l e R s m args below meth c Q D b h0 n0 z0 M (pc, lv, st, μ) := by
  unfold ov_stI at h
  split at h
  · rename_i x r hb
    cases h
    intro ls H locs hl hH hS
    have hk := Nat.le_of_ble_eq_true hb
    refine lv_istore_n X.1 X.2.1 hd rfl hl.has (by rw [hl.2.2.1] at hk; omega) rfl (fun ls' hl' => ?_)
    exact kk ls' H locs (hl.st1 (v := .int x) hl') hH hS
  · cases h
theorem ov_s_lload (X : ov_X p s m args meth c D M) {k : Nat} (hd : decode (ov_byt M) pc = .ok (.lload k, 2)) (h : ov_ldL 2 k pc lv st μ = some x') (kk : ov_W p l e R s m args below meth c Q D b h0 n0 z0 M x') : ov_W p l e R s m args below meth c Q D b h0 n0 z0 M (pc, lv, st, μ) := by
  unfold ov_ldL at h
  split at h
  · rename_i x hx
    cases h
    intro ls H locs hl hH hS
    exact lv_lload X.1 X.2.1 hd (hl.get hx) (kk ls H locs hl hH hS)
  · cases h
theorem ov_s_lstore (X : ov_X p s m args meth c D M) {k : Nat} (hd : decode (ov_byt M) pc = .ok (.lstore k, 2)) (h : ov_stL 2 k pc lv st μ = some x') (kk : ov_W p l e R s m args below meth c Q D b h0 n0 z0 M x') : ov_W p l e R s m args below meth c Q D b h0 n0 z0 M (pc, lv, st, μ) := by
  unfold ov_stL at h
  split at h
  · rename_i x r hb
    cases h
    intro ls H locs hl hH hS
    have hk := Nat.le_of_ble_eq_true hb
    refine lv_lstore X.1 X.2.1 hd hl.has (by rw [hl.2.2.1] at hk; omega) rfl (fun ls' hl' => ?_)
    exact kk ls' H locs (hl.st2 (v := .long x) rfl hl') hH hS
  · cases h
theorem ov_s_lload_n (X : ov_X p s m args meth c D M) {k : Fin 4} (hd : decode (ov_byt M) pc = .ok (.lload_n k, 1)) (h : ov_ldL 1 k pc lv st μ = some x') (kk : ov_W p l e R s m args below meth c Q D b h0 n0 z0 M x') : ov_W p l e R s m args below meth c Q D b h0 n0 z0 M (pc, lv, st, μ) := by
  unfold ov_ldL at h
  split at h
  · rename_i x hx
    cases h
    intro ls H locs hl hH hS
    exact lv_lload_n X.1 X.2.1 hd rfl (hl.get hx) (kk ls H locs hl hH hS)
  · cases h
theorem ov_s_lstore_n (X : ov_X p s m args meth c D M) {k : Fin 4} (hd : decode (ov_byt M) pc = .ok (.lstore_n k, 1)) (h : ov_stL 1 k pc lv st μ = some x') (kk : ov_W p l e R s m args below meth c Q D b h0 n0 z0 M x') : ov_W p l e R s m args below meth c Q D b h0 n0 z0 M (pc, lv, st, μ) := by
  unfold ov_stL at h
  split at h
  · rename_i x r hb
    cases h
    intro ls H locs hl hH hS
    have hk := Nat.le_of_ble_eq_true hb
    refine lv_lstore_n X.1 X.2.1 hd rfl hl.has (by rw [hl.2.2.1] at hk; omega) rfl (fun ls' hl' => ?_)
    exact kk ls' H locs (hl.st2 (v := .long x) rfl hl') hH hS
  · cases h
theorem ov_s_aload (X : ov_X p s m args meth c D M) {k : Nat} (hd : decode (ov_byt M) pc = .ok (.aload k, 2)) (h : ov_ldA 2 k pc lv st μ = some x') (kk : ov_W p l e R s m args below meth c Q D b h0 n0 z0 M x') : ov_W p l e R s m args below meth c Q D b h0 n0 z0 M (pc, lv, st, μ) := by
  unfold ov_ldA at h
  split at h
  · rename_i x hx
    cases h
    intro ls H locs hl hH hS
    exact lv_aload X.1 X.2.1 hd (hl.get hx) (kk ls H locs hl hH hS)
  · cases h
theorem ov_s_astore (X : ov_X p s m args meth c D M) {k : Nat} (hd : decode (ov_byt M) pc = .ok (.astore k, 2)) (h : ov_stA 2 k pc lv st μ = some x') (kk : ov_W p l e R s m args below meth c Q D b h0 n0 z0 M x') : ov_W p l e R s m args below meth c Q D b h0 n0 z0 M (pc, lv, st, μ) := by
  unfold ov_stA at h
  split at h
  · rename_i x r hb
    cases h
    intro ls H locs hl hH hS
    have hk := Nat.le_of_ble_eq_true hb
    refine lv_astore X.1 X.2.1 hd hl.has (by rw [hl.2.2.1] at hk; omega) rfl (fun ls' hl' => ?_)
    exact kk ls' H locs (hl.st1 (v := .ref x) hl') hH hS
  · cases h
theorem ov_s_aload_n (X : ov_X p s m args meth c D M) {k : Fin 4} (hd : decode (ov_byt M) pc = .ok (.aload_n k, 1)) (h : ov_ldA 1 k pc lv st μ = some x') (kk : ov_W p l e R s m args below meth c Q D b h0 n0 z0 M x') : ov_W p l e R s m args below meth c Q D b h0 n0 z0 M (pc, lv, st, μ) := by
  unfold ov_ldA at h
  split at h
  · rename_i x hx
    cases h
    intro ls H locs hl hH hS
    exact lv_aload_n X.1 X.2.1 hd rfl (hl.get hx) (kk ls H locs hl hH hS)
  · cases h
theorem ov_s_astore_n (X : ov_X p s m args meth c D M) {k : Fin 4} (hd : decode (ov_byt M) pc = .ok (.astore_n k, 1)) (h : ov_stA 1 k pc lv st μ = some x') (kk : ov_W p l e R s m args below meth c Q D b h0 n0 z0 M x') : ov_W p l e R s m args below meth c Q D b h0 n0 z0 M (pc, lv, st, μ) := by
  unfold ov_stA at h
  split at h
  · rename_i x r hb
    cases h
    intro ls H locs hl hH hS
    have hk := Nat.le_of_ble_eq_true hb
    refine lv_astore_n X.1 X.2.1 hd rfl hl.has (by rw [hl.2.2.1] at hk; omega) rfl (fun ls' hl' => ?_)
    exact kk ls' H locs (hl.st1 (v := .ref x) hl') hH hS
  · cases h
theorem ov_s_iinc (X : ov_X p s m args meth c D M) {k : Nat} {n : Int} (hd : decode (ov_byt M) pc = .ok (.iinc k n, 3)) (h : ov_inc k n pc lv st μ = some x') (kk : ov_W p l e R s m args below meth c Q D b h0 n0 z0 M x') : ov_W p l e R s m args below meth c Q D b h0 n0 z0 M (pc, lv, st, μ) := by
  unfold ov_inc at h
  split at h
  · rename_i x hx
    cases h
    intro ls H locs hl hH hS
    obtain ⟨q, hq⟩ := List.getElem?_of_mem (ov_mem_av (b := b) (h0 := h0) (ov_getD hx))
    have hlt : k < lv.length := (List.getElem?_eq_some_iff.mp (ov_getD hx)).1
    refine lv_iinc X.1 X.2.1 hd hl.has (k := q) hq rfl (by rw [hl.2.2.1] at hlt; omega) rfl (fun ls' hl' => ?_)
    exact kk ls' H locs (hl.st1 (v := .int (x + Int32.ofInt n)) hl') hH hS
  · cases h
theorem ov_s_iadd (X : ov_X p s m args meth c D M) (hd : decode (ov_byt M) pc = .ok (.iadd, 1)) (h : ov_ii (fun x y => x + y) pc lv st μ = some x') (kk : ov_W p l e R s m args below meth c Q D b h0 n0 z0 M x') : ov_W p l e R s m args below meth c Q D b h0 n0 z0 M (pc, lv, st, μ) := by
  unfold ov_ii at h
  split at h
  · cases h
    intro ls H locs hl hH hS
    exact lv_iadd X.1 X.2.1 hd (kk ls H locs hl hH hS)
  · cases h
theorem ov_s_isub (X : ov_X p s m args meth c D M) (hd : decode (ov_byt M) pc = .ok (.isub, 1)) (h : ov_ii (fun x y => x - y) pc lv st μ = some x') (kk : ov_W p l e R s m args below meth c Q D b h0 n0 z0 M x') : ov_W p l e R s m args below meth c Q D b h0 n0 z0 M (pc, lv, st, μ) := by
  unfold ov_ii at h
  split at h
  · cases h
    intro ls H locs hl hH hS
    exact lv_isub X.1 X.2.1 hd (kk ls H locs hl hH hS)
  · cases h
theorem ov_s_imul (X : ov_X p s m args meth c D M) (hd : decode (ov_byt M) pc = .ok (.imul, 1)) (h : ov_ii (fun x y => x * y) pc lv st μ = some x') (kk : ov_W p l e R s m args below meth c Q D b h0 n0 z0 M x') : ov_W p l e R s m args below meth c Q D b h0 n0 z0 M (pc, lv, st, μ) := by
  unfold ov_ii at h
  split at h
  · cases h
    intro ls H locs hl hH hS
    exact lv_imul X.1 X.2.1 hd (kk ls H locs hl hH hS)
  · cases h
theorem ov_s_iand (X : ov_X p s m args meth c D M) (hd : decode (ov_byt M) pc = .ok (.iand, 1)) (h : ov_ii (fun x y => x &&& y) pc lv st μ = some x') (kk : ov_W p l e R s m args below meth c Q D b h0 n0 z0 M x') : ov_W p l e R s m args below meth c Q D b h0 n0 z0 M (pc, lv, st, μ) := by
  unfold ov_ii at h
  split at h
  · cases h
    intro ls H locs hl hH hS
    exact lv_iand X.1 X.2.1 hd (kk ls H locs hl hH hS)
  · cases h
theorem ov_s_ior (X : ov_X p s m args meth c D M) (hd : decode (ov_byt M) pc = .ok (.ior, 1)) (h : ov_ii (fun x y => x ||| y) pc lv st μ = some x') (kk : ov_W p l e R s m args below meth c Q D b h0 n0 z0 M x') : ov_W p l e R s m args below meth c Q D b h0 n0 z0 M (pc, lv, st, μ) := by
  unfold ov_ii at h
  split at h
  · cases h
    intro ls H locs hl hH hS
    exact lv_ior X.1 X.2.1 hd (kk ls H locs hl hH hS)
  · cases h
theorem ov_s_ixor (X : ov_X p s m args meth c D M) (hd : decode (ov_byt M) pc = .ok (.ixor, 1)) (h : ov_ii (fun x y => x ^^^ y) pc lv st μ = some x') (kk : ov_W p l e R s m args below meth c Q D b h0 n0 z0 M x') : ov_W p l e R s m args below meth c Q D b h0 n0 z0 M (pc, lv, st, μ) := by
  unfold ov_ii at h
  split at h
  · cases h
    intro ls H locs hl hH hS
    exact lv_ixor X.1 X.2.1 hd (kk ls H locs hl hH hS)
  · cases h
theorem ov_s_ishl (X : ov_X p s m args meth c D M) (hd : decode (ov_byt M) pc = .ok (.ishl, 1)) (h : ov_ii (fun x y => x <<< (y &&& 31)) pc lv st μ = some x') (kk : ov_W p l e R s m args below meth c Q D b h0 n0 z0 M x') : ov_W p l e R s m args below meth c Q D b h0 n0 z0 M (pc, lv, st, μ) := by
  unfold ov_ii at h
  split at h
  · cases h
    intro ls H locs hl hH hS
    exact lv_ishl X.1 X.2.1 hd (kk ls H locs hl hH hS)
  · cases h
theorem ov_s_ishr (X : ov_X p s m args meth c D M) (hd : decode (ov_byt M) pc = .ok (.ishr, 1)) (h : ov_ii (fun x y => x >>> (y &&& 31)) pc lv st μ = some x') (kk : ov_W p l e R s m args below meth c Q D b h0 n0 z0 M x') : ov_W p l e R s m args below meth c Q D b h0 n0 z0 M (pc, lv, st, μ) := by
  unfold ov_ii at h
  split at h
  · cases h
    intro ls H locs hl hH hS
    exact lv_ishr X.1 X.2.1 hd (kk ls H locs hl hH hS)
  · cases h
theorem ov_s_iushr (X : ov_X p s m args meth c D M) (hd : decode (ov_byt M) pc = .ok (.iushr, 1)) (h : ov_ii (fun x y => (x.toUInt32 >>> (y.toUInt32 &&& Int32.toUInt32 31)).toInt32) pc lv st μ = some x') (kk : ov_W p l e R s m args below meth c Q D b h0 n0 z0 M x') : ov_W p l e R s m args below meth c Q D b h0 n0 z0 M (pc, lv, st, μ) := by
  unfold ov_ii at h
  split at h
  · cases h
    intro ls H locs hl hH hS
    exact lv_iushr X.1 X.2.1 hd rfl (kk ls H locs hl hH hS)
  · cases h
theorem ov_s_ladd (X : ov_X p s m args meth c D M) (hd : decode (ov_byt M) pc = .ok (.ladd, 1)) (h : ov_ll (fun x y => x + y) pc lv st μ = some x') (kk : ov_W p l e R s m args below meth c Q D b h0 n0 z0 M x') : ov_W p l e R s m args below meth c Q D b h0 n0 z0 M (pc, lv, st, μ) := by
  unfold ov_ll at h
  split at h
  · cases h
    intro ls H locs hl hH hS
    exact lv_ladd X.1 X.2.1 hd (kk ls H locs hl hH hS)
  · cases h
theorem ov_s_lsub (X : ov_X p s m args meth c D M) (hd : decode (ov_byt M) pc = .ok (.lsub, 1)) (h : ov_ll (fun x y => x - y) pc lv st μ = some x') (kk : ov_W p l e R s m args below meth c Q D b h0 n0 z0 M x') : ov_W p l e R s m args below meth c Q D b h0 n0 z0 M (pc, lv, st, μ) := by
  unfold ov_ll at h
  split at h
  · cases h
    intro ls H locs hl hH hS
    exact lv_lsub X.1 X.2.1 hd (kk ls H locs hl hH hS)
  · cases h
theorem ov_s_lmul (X : ov_X p s m args meth c D M) (hd : decode (ov_byt M) pc = .ok (.lmul, 1)) (h : ov_ll (fun x y => x * y) pc lv st μ = some x') (kk : ov_W p l e R s m args below meth c Q D b h0 n0 z0 M x') : ov_W p l e R s m args below meth c Q D b h0 n0 z0 M (pc, lv, st, μ) := by
  unfold ov_ll at h
  split at h
  · cases h
    intro ls H locs hl hH hS
    exact lv_lmul X.1 X.2.1 hd (kk ls H locs hl hH hS)
  · cases h
theorem ov_s_land (X : ov_X p s m args meth c D M) (hd : decode (ov_byt M) pc = .ok (.land, 1)) (h : ov_ll (fun x y => x &&& y) pc lv st μ = some x') (kk : ov_W p l e R s m args below meth c Q D b h0 n0 z0 M x') : ov_W p l e R s m args below meth c Q D b h0 n0 z0 M (pc, lv, st, μ) := by
  unfold ov_ll at h
  split at h
  · cases h
    intro ls H locs hl hH hS
    exact lv_land X.1 X.2.1 hd (kk ls H locs hl hH hS)
  · cases h
theorem ov_s_lor (X : ov_X p s m args meth c D M) (hd : decode (ov_byt M) pc = .ok (.lor, 1)) (h : ov_ll (fun x y => x ||| y) pc lv st μ = some x') (kk : ov_W p l e R s m args below meth c Q D b h0 n0 z0 M x') : ov_W p l e R s m args below meth c Q D b h0 n0 z0 M (pc, lv, st, μ) := by
  unfold ov_ll at h
  split at h
  · cases h
    intro ls H locs hl hH hS
    exact lv_lor X.1 X.2.1 hd (kk ls H locs hl hH hS)
  · cases h
theorem ov_s_ineg (X : ov_X p s m args meth c D M) (hd : decode (ov_byt M) pc = .ok (.ineg, 1)) (h : ov_i1 (fun x => .int (-x)) pc lv st μ = some x') (kk : ov_W p l e R s m args below meth c Q D b h0 n0 z0 M x') : ov_W p l e R s m args below meth c Q D b h0 n0 z0 M (pc, lv, st, μ) := by
  unfold ov_i1 at h
  split at h
  · cases h
    intro ls H locs hl hH hS
    exact lv_ineg X.1 X.2.1 hd (kk ls H locs hl hH hS)
  · cases h
theorem ov_s_lneg (X : ov_X p s m args meth c D M) (hd : decode (ov_byt M) pc = .ok (.lneg, 1)) (h : ov_l1 (fun x => .long (-x)) pc lv st μ = some x') (kk : ov_W p l e R s m args below meth c Q D b h0 n0 z0 M x') : ov_W p l e R s m args below meth c Q D b h0 n0 z0 M (pc, lv, st, μ) := by
  unfold ov_l1 at h
  split at h
  · cases h
    intro ls H locs hl hH hS
    exact lv_lneg X.1 X.2.1 hd (kk ls H locs hl hH hS)
  · cases h
theorem ov_s_i2l (X : ov_X p s m args meth c D M) (hd : decode (ov_byt M) pc = .ok (.i2l, 1)) (h : ov_i1 (fun x => .long x.toInt64) pc lv st μ = some x') (kk : ov_W p l e R s m args below meth c Q D b h0 n0 z0 M x') : ov_W p l e R s m args below meth c Q D b h0 n0 z0 M (pc, lv, st, μ) := by
  unfold ov_i1 at h
  split at h
  · cases h
    intro ls H locs hl hH hS
    exact lv_i2l X.1 X.2.1 hd rfl (kk ls H locs hl hH hS)
  · cases h
theorem ov_s_l2i (X : ov_X p s m args meth c D M) (hd : decode (ov_byt M) pc = .ok (.l2i, 1)) (h : ov_l1 (fun x => .int x.toInt32) pc lv st μ = some x') (kk : ov_W p l e R s m args below meth c Q D b h0 n0 z0 M x') : ov_W p l e R s m args below meth c Q D b h0 n0 z0 M (pc, lv, st, μ) := by
  unfold ov_l1 at h
  split at h
  · cases h
    intro ls H locs hl hH hS
    exact lv_l2i X.1 X.2.1 hd rfl (kk ls H locs hl hH hS)
  · cases h
theorem ov_s_lshl (X : ov_X p s m args meth c D M) (hd : decode (ov_byt M) pc = .ok (.lshl, 1)) (h : ov_li (fun x y => x <<< (y.toInt64 &&& 63)) pc lv st μ = some x') (kk : ov_W p l e R s m args below meth c Q D b h0 n0 z0 M x') : ov_W p l e R s m args below meth c Q D b h0 n0 z0 M (pc, lv, st, μ) := by
  unfold ov_li at h
  split at h
  · cases h
    intro ls H locs hl hH hS
    exact lv_lshl X.1 X.2.1 hd rfl (kk ls H locs hl hH hS)
  · cases h
theorem ov_s_lushr (X : ov_X p s m args meth c D M) (hd : decode (ov_byt M) pc = .ok (.lushr, 1)) (h : ov_li (fun x y => (x.toUInt64 >>> (y.toInt64.toUInt64 &&& Int64.toUInt64 63)).toInt64) pc lv st μ = some x') (kk : ov_W p l e R s m args below meth c Q D b h0 n0 z0 M x') : ov_W p l e R s m args below meth c Q D b h0 n0 z0 M (pc, lv, st, μ) := by
  unfold ov_li at h
  split at h
  · cases h
    intro ls H locs hl hH hS
    exact lv_lushr X.1 X.2.1 hd rfl (kk ls H locs hl hH hS)
  · cases h
theorem ov_s_lcmp (X : ov_X p s m args meth c D M) (hd : decode (ov_byt M) pc = .ok (.lcmp, 1)) (h : ov_cm pc lv st μ = some x') (kk : ov_W p l e R s m args below meth c Q D b h0 n0 z0 M x') : ov_W p l e R s m args below meth c Q D b h0 n0 z0 M (pc, lv, st, μ) := by
  unfold ov_cm at h
  split at h
  · cases h
    intro ls H locs hl hH hS
    exact W.lcmp X.1 X.2.1 hd (kk ls H locs hl hH hS)
  · cases h
theorem ov_s_idiv (X : ov_X p s m args meth c D M) (hd : decode (ov_byt M) pc = .ok (.idiv, 1)) (h : ov_iz (fun x y => x / y) pc lv st μ = some x') (kk : ov_W p l e R s m args below meth c Q D b h0 n0 z0 M x') : ov_W p l e R s m args below meth c Q D b h0 n0 z0 M (pc, lv, st, μ) := by
  unfold ov_iz at h
  split at h
  · split at h
    · cases h
    · rename_i hne
      cases h
      intro ls H locs hl hH hS
      exact lv_idiv X.1 X.2.1 hd hne (kk ls H locs hl hH hS)
  · cases h
theorem ov_s_irem (X : ov_X p s m args meth c D M) (hd : decode (ov_byt M) pc = .ok (.irem, 1)) (h : ov_iz (fun x y => x - x / y * y) pc lv st μ = some x') (kk : ov_W p l e R s m args below meth c Q D b h0 n0 z0 M x') : ov_W p l e R s m args below meth c Q D b h0 n0 z0 M (pc, lv, st, μ) := by
  unfold ov_iz at h
  split at h
  · split at h
    · cases h
    · rename_i hne
      cases h
      intro ls H locs hl hH hS
      exact lv_irem X.1 X.2.1 hd hne (kk ls H locs hl hH hS)
  · cases h
theorem ov_s_ldiv (X : ov_X p s m args meth c D M) (hd : decode (ov_byt M) pc = .ok (.ldiv, 1)) (h : ov_lz (fun x y => x / y) pc lv st μ = some x') (kk : ov_W p l e R s m args below meth c Q D b h0 n0 z0 M x') : ov_W p l e R s m args below meth c Q D b h0 n0 z0 M (pc, lv, st, μ) := by
  unfold ov_lz at h
  split at h
  · split at h
    · cases h
    · rename_i hne
      cases h
      intro ls H locs hl hH hS
      exact lv_ldiv X.1 X.2.1 hd hne (kk ls H locs hl hH hS)
  · cases h
theorem ov_s_lrem (X : ov_X p s m args meth c D M) (hd : decode (ov_byt M) pc = .ok (.lrem, 1)) (h : ov_lz (fun x y => x - x / y * y) pc lv st μ = some x') (kk : ov_W p l e R s m args below meth c Q D b h0 n0 z0 M x') : ov_W p l e R s m args below meth c Q D b h0 n0 z0 M (pc, lv, st, μ) := by
  unfold ov_lz at h
  split at h
  · split at h
    · cases h
    · rename_i hne
      cases h
      intro ls H locs hl hH hS
      exact lv_lrem X.1 X.2.1 hd hne (kk ls H locs hl hH hS)
  · cases h
theorem ov_s_dup (X : ov_X p s m args meth c D M) (hd : decode (ov_byt M) pc = .ok (.dup, 1)) (h : ov_dup pc lv st μ = some x') (kk : ov_W p l e R s m args below meth c Q D b h0 n0 z0 M x') : ov_W p l e R s m args below meth c Q D b h0 n0 z0 M (pc, lv, st, μ) := by
  unfold ov_dup at h
  split at h
  · split at h
    · rename_i hc
      cases h
      intro ls H locs hl hH hS
      exact lv_dup X.1 X.2.1 hd (by rw [ov_cat]; exact hc) (kk ls H locs hl hH hS)
    · cases h
  · cases h
theorem ov_s_pop (X : ov_X p s m args meth c D M) (hd : decode (ov_byt M) pc = .ok (.pop, 1)) (h : ov_pop pc lv st μ = some x') (kk : ov_W p l e R s m args below meth c Q D b h0 n0 z0 M x') : ov_W p l e R s m args below meth c Q D b h0 n0 z0 M (pc, lv, st, μ) := by
  unfold ov_pop at h
  split at h
  · split at h
    · rename_i hc
      cases h
      intro ls H locs hl hH hS
      exact lv_pop X.1 X.2.1 hd (by rw [ov_cat]; exact hc) (kk ls H locs hl hH hS)
    · cases h
  · cases h
theorem ov_s_dup2 (X : ov_X p s m args meth c D M) (hd : decode (ov_byt M) pc = .ok (.dup2, 1)) (h : ov_dup2 pc lv st μ = some x') (kk : ov_W p l e R s m args below meth c Q D b h0 n0 z0 M x') : ov_W p l e R s m args below meth c Q D b h0 n0 z0 M (pc, lv, st, μ) := by
  unfold ov_dup2 at h
  split at h
  · split at h
    · rename_i hc
      split at h
      · rename_i hc2
        cases h
        intro ls H locs hl hH hS
        exact lv_dup2_11 X.1 X.2.1 hd (by rw [ov_cat]; exact hc) (by rw [ov_cat]; exact hc2) (kk ls H locs hl hH hS)
      · cases h
    · cases h
  · cases h
theorem ov_s_if_eq (X : ov_X p s m args meth c D M) {off : Int} (hd : decode (ov_byt M) pc = .ok (.ifCond .eq off, 3)) (h : ov_if (fun x => ov_cc .eq x 0) off pc lv st μ = some x') (kk : ov_W p l e R s m args below meth c Q D b h0 n0 z0 M x') : ov_W p l e R s m args below meth c Q D b h0 n0 z0 M (pc, lv, st, μ) := by
  unfold ov_if at h
  split at h
  · rename_i x r t ht
    cases h
    intro ls H locs hl hH hS
    refine lv_if_eq X.1 X.2.1 hd (ov_tg_eq ht) (fun hq => ?_) (fun hq => ?_)
    · have e : ov_cc .eq x 0 = true := by simp [ov_cc, hq]
      have k2 := kk ls H locs hl hH hS
      simp only [e, cond_true] at k2
      exact k2
    · have e : ov_cc .eq x 0 = false := by simp [ov_cc, hq]
      have k2 := kk ls H locs hl hH hS
      simp only [e, cond_false] at k2
      exact k2
  · cases h
theorem ov_s_icmp_eq (X : ov_X p s m args meth c D M) {off : Int} (hd : decode (ov_byt M) pc = .ok (.if_icmp .eq off, 3)) (h : ov_cmp (fun x y => ov_cc .eq x y) off pc lv st μ = some x') (kk : ov_W p l e R s m args below meth c Q D b h0 n0 z0 M x') : ov_W p l e R s m args below meth c Q D b h0 n0 z0 M (pc, lv, st, μ) := by
  unfold ov_cmp at h
  split at h
  · rename_i y x r t ht
    cases h
    intro ls H locs hl hH hS
    refine lv_icmp_eq X.1 X.2.1 hd (ov_tg_eq ht) (fun hq => ?_) (fun hq => ?_)
    · have e : ov_cc .eq x y = true := by simp [ov_cc, hq]
      have k2 := kk ls H locs hl hH hS
      simp only [e, cond_true] at k2
      exact k2
    · have e : ov_cc .eq x y = false := by simp [ov_cc, hq]
      have k2 := kk ls H locs hl hH hS
      simp only [e, cond_false] at k2
      exact k2
  · cases h
theorem ov_s_if_ne (X : ov_X p s m args meth c D M) {off : Int} (hd : decode (ov_byt M) pc = .ok (.ifCond .ne off, 3)) (h : ov_if (fun x => ov_cc .ne x 0) off pc lv st μ = some x') (kk : ov_W p l e R s m args below meth c Q D b h0 n0 z0 M x') : ov_W p l e R s m args below meth c Q D b h0 n0 z0 M (pc, lv, st, μ) := by
  unfold ov_if at h
  split at h
  · rename_i x r t ht
    cases h
    intro ls H locs hl hH hS
    refine lv_if_ne X.1 X.2.1 hd (ov_tg_eq ht) (fun hq => ?_) (fun hq => ?_)
    · have e : ov_cc .ne x 0 = true := by simp [ov_cc, hq]
      have k2 := kk ls H locs hl hH hS
      simp only [e, cond_true] at k2
      exact k2
    · have e : ov_cc .ne x 0 = false := by simp [ov_cc, hq]
      have k2 := kk ls H locs hl hH hS
      simp only [e, cond_false] at k2
      exact k2
  · cases h
theorem ov_s_icmp_ne (X : ov_X p s m args meth c D M) {off : Int} (hd : decode (ov_byt M) pc = .ok (.if_icmp .ne off, 3)) (h : ov_cmp (fun x y => ov_cc .ne x y) off pc lv st μ = some x') (kk : ov_W p l e R s m args below meth c Q D b h0 n0 z0 M x') : ov_W p l e R s m args below meth c Q D b h0 n0 z0 M (pc, lv, st, μ) := by
  unfold ov_cmp at h
  split at h
  · rename_i y x r t ht
    cases h
    intro ls H locs hl hH hS
    refine lv_icmp_ne X.1 X.2.1 hd (ov_tg_eq ht) (fun hq => ?_) (fun hq => ?_)
    · have e : ov_cc .ne x y = true := by simp [ov_cc, hq]
      have k2 := kk ls H locs hl hH hS
      simp only [e, cond_true] at k2
      exact k2
    · have e : ov_cc .ne x y = false := by simp [ov_cc, hq]
      have k2 := kk ls H locs hl hH hS
      simp only [e, cond_false] at k2
      exact k2
  · cases h
theorem ov_s_if_lt (X : ov_X p s m args meth c D M) {off : Int} (hd : decode (ov_byt M) pc = .ok (.ifCond .lt off, 3)) (h : ov_if (fun x => ov_cc .lt x 0) off pc lv st μ = some x') (kk : ov_W p l e R s m args below meth c Q D b h0 n0 z0 M x') : ov_W p l e R s m args below meth c Q D b h0 n0 z0 M (pc, lv, st, μ) := by
  unfold ov_if at h
  split at h
  · rename_i x r t ht
    cases h
    intro ls H locs hl hH hS
    refine lv_if_lt X.1 X.2.1 hd (ov_tg_eq ht) (fun hq => ?_) (fun hq => ?_)
    · have e : ov_cc .lt x 0 = true := by simp [ov_cc, hq]
      have k2 := kk ls H locs hl hH hS
      simp only [e, cond_true] at k2
      exact k2
    · have e : ov_cc .lt x 0 = false := by simp [ov_cc, hq]
      have k2 := kk ls H locs hl hH hS
      simp only [e, cond_false] at k2
      exact k2
  · cases h
theorem ov_s_icmp_lt (X : ov_X p s m args meth c D M) {off : Int} (hd : decode (ov_byt M) pc = .ok (.if_icmp .lt off, 3)) (h : ov_cmp (fun x y => ov_cc .lt x y) off pc lv st μ = some x') (kk : ov_W p l e R s m args below meth c Q D b h0 n0 z0 M x') : ov_W p l e R s m args below meth c Q D b h0 n0 z0 M (pc, lv, st, μ) := by
  unfold ov_cmp at h
  split at h
  · rename_i y x r t ht
    cases h
    intro ls H locs hl hH hS
    refine lv_icmp_lt X.1 X.2.1 hd (ov_tg_eq ht) (fun hq => ?_) (fun hq => ?_)
    · have e : ov_cc .lt x y = true := by simp [ov_cc, hq]
      have k2 := kk ls H locs hl hH hS
      simp only [e, cond_true] at k2
      exact k2
    · have e : ov_cc .lt x y = false := by simp [ov_cc, hq]
      have k2 := kk ls H locs hl hH hS
      simp only [e, cond_false] at k2
      exact k2
  · cases h
theorem ov_s_if_ge (X : ov_X p s m args meth c D M) {off : Int} (hd : decode (ov_byt M) pc = .ok (.ifCond .ge off, 3)) (h : ov_if (fun x => ov_cc .ge x 0) off pc lv st μ = some x') (kk : ov_W p l e R s m args below meth c Q D b h0 n0 z0 M x') : ov_W p l e R s m args below meth c Q D b h0 n0 z0 M (pc, lv, st, μ) := by
  unfold ov_if at h
  split at h
  · rename_i x r t ht
    cases h
    intro ls H locs hl hH hS
    refine lv_if_ge X.1 X.2.1 hd (ov_tg_eq ht) (fun hq => ?_) (fun hq => ?_)
    · have e : ov_cc .ge x 0 = true := by simp [ov_cc, hq]
      have k2 := kk ls H locs hl hH hS
      simp only [e, cond_true] at k2
      exact k2
    · have e : ov_cc .ge x 0 = false := by simp [ov_cc, hq]
      have k2 := kk ls H locs hl hH hS
      simp only [e, cond_false] at k2
      exact k2
  · cases h
theorem ov_s_icmp_ge (X : ov_X p s m args meth c D M) {off : Int} (hd : decode (ov_byt M) pc = .ok (.if_icmp .ge off, 3)) (h : ov_cmp (fun x y => ov_cc .ge x y) off pc lv st μ = some x') (kk : ov_W p l e R s m args below meth c Q D b h0 n0 z0 M x') : ov_W p l e R s m args below meth c Q D b h0 n0 z0 M (pc, lv, st, μ) := by
  unfold ov_cmp at h
  split at h
  · rename_i y x r t ht
    cases h
    intro ls H locs hl hH hS
    refine lv_icmp_ge X.1 X.2.1 hd (ov_tg_eq ht) (fun hq => ?_) (fun hq => ?_)
    · have e : ov_cc .ge x y = true := by simp [ov_cc, hq]
      have k2 := kk ls H locs hl hH hS
      simp only [e, cond_true] at k2
      exact k2
    · have e : ov_cc .ge x y = false := by simp [ov_cc, hq]
      have k2 := kk ls H locs hl hH hS
      simp only [e, cond_false] at k2
      exact k2
  · cases h
theorem ov_s_if_gt (X : ov_X p s m args meth c D M) {off : Int} (hd : decode (ov_byt M) pc = .ok (.ifCond .gt off, 3)) (h : ov_if (fun x => ov_cc .gt x 0) off pc lv st μ = some x') (kk : ov_W p l e R s m args below meth c Q D b h0 n0 z0 M x') : ov_W p l e R s m args below meth c Q D b h0 n0 z0 M (pc, lv, st, μ) := by
  unfold ov_if at h
  split at h
  · rename_i x r t ht
    cases h
    intro ls H locs hl hH hS
    refine lv_if_gt X.1 X.2.1 hd (ov_tg_eq ht) (fun hq => ?_) (fun hq => ?_)
    · have e : ov_cc .gt x 0 = true := by simp [ov_cc, hq]
      have k2 := kk ls H locs hl hH hS
      simp only [e, cond_true] at k2
      exact k2
    · have e : ov_cc .gt x 0 = false := by simp [ov_cc, hq]
      have k2 := kk ls H locs hl hH hS
      simp only [e, cond_false] at k2
      exact k2
  · cases h
theorem ov_s_icmp_gt (X : ov_X p s m args meth c D M) {off : Int} (hd : decode (ov_byt M) pc = .ok (.if_icmp .gt off, 3)) (h : ov_cmp (fun x y => ov_cc .gt x y) off pc lv st μ = some x') (kk : ov_W p l e R s m args below meth c Q D b h0 n0 z0 M x') : ov_W p l e R s m args below meth c Q D b h0 n0 z0 M (pc, lv, st, μ) := by
  unfold ov_cmp at h
  split at h
  · rename_i y x r t ht
    cases h
    intro ls H locs hl hH hS
    refine lv_icmp_gt X.1 X.2.1 hd (ov_tg_eq ht) (fun hq => ?_) (fun hq => ?_)
    · have e : ov_cc .gt x y = true := by simp [ov_cc, hq]
      have k2 := kk ls H locs hl hH hS
      simp only [e, cond_true] at k2
      exact k2
    · have e : ov_cc .gt x y = false := by simp [ov_cc, hq]
      have k2 := kk ls H locs hl hH hS
      simp only [e, cond_false] at k2
      exact k2
  · cases h
theorem ov_s_if_le (X : ov_X p s m args meth c D M) {off : Int} (hd : decode (ov_byt M) pc = .ok (.ifCond .le off, 3)) (h : ov_if (fun x => ov_cc .le x 0) off pc lv st μ = some x') (kk : ov_W p l e R s m args below meth c Q D b h0 n0 z0 M x') : ov_W p l e R s m args below meth c Q D b h0 n0 z0 M (pc, lv, st, μ) := by
  unfold ov_if at h
  split at h
  · rename_i x r t ht
    cases h
    intro ls H locs hl hH hS
    refine lv_if_le X.1 X.2.1 hd (ov_tg_eq ht) (fun hq => ?_) (fun hq => ?_)
    · have e : ov_cc .le x 0 = true := by simp [ov_cc, hq]
      have k2 := kk ls H locs hl hH hS
      simp only [e, cond_true] at k2
      exact k2
    · have e : ov_cc .le x 0 = false := by simp [ov_cc, hq]
      have k2 := kk ls H locs hl hH hS
      simp only [e, cond_false] at k2
      exact k2
  · cases h
theorem ov_s_icmp_le (X : ov_X p s m args meth c D M) {off : Int} (hd : decode (ov_byt M) pc = .ok (.if_icmp .le off, 3)) (h : ov_cmp (fun x y => ov_cc .le x y) off pc lv st μ = some x') (kk : ov_W p l e R s m args below meth c Q D b h0 n0 z0 M x') : ov_W p l e R s m args below meth c Q D b h0 n0 z0 M (pc, lv, st, μ) := by
  unfold ov_cmp at h
  split at h
  · rename_i y x r t ht
    cases h
    intro ls H locs hl hH hS
    refine lv_icmp_le X.1 X.2.1 hd (ov_tg_eq ht) (fun hq => ?_) (fun hq => ?_)
    · have e : ov_cc .le x y = true := by simp [ov_cc, hq]
      have k2 := kk ls H locs hl hH hS
      simp only [e, cond_true] at k2
      exact k2
    · have e : ov_cc .le x y = false := by simp [ov_cc, hq]
      have k2 := kk ls H locs hl hH hS
      simp only [e, cond_false] at k2
      exact k2
  · cases h
theorem ov_s_goto (X : ov_X p s m args meth c D M) {off : Int} (hd : decode (ov_byt M) pc = .ok (.goto off, 3)) (h : ov_go off pc lv st μ = some x') (kk : ov_W p l e R s m args below meth c Q D b h0 n0 z0 M x') : ov_W p l e R s m args below meth c Q D b h0 n0 z0 M (pc, lv, st, μ) := by
  unfold ov_go at h
  split at h
  · rename_i t ht
    cases h
    intro ls H locs hl hH hS
    exact lv_goto X.1 X.2.1 hd (ov_tg_eq ht) (kk ls H locs hl hH hS)
  · cases h
theorem ov_s_tsw (X : ov_X p s m args meth c D M) {dd lo hi : Int} {offs : Array Int} {ln : Nat} (hd : decode (ov_byt M) pc = .ok (.tableswitch dd lo hi offs, ln)) (h : ov_ts dd lo hi offs pc lv st μ = some x') (kk : ov_W p l e R s m args below meth c Q D b h0 n0 z0 M x') : ov_W p l e R s m args below meth c Q D b h0 n0 z0 M (pc, lv, st, μ) := by
  unfold ov_ts at h
  split at h
  · split at h
    · rename_i hq
      unfold ov_go at h
      split at h
      · rename_i t ht
        cases h
        intro ls H locs hl hH hS
        exact lv_tableOut X.1 X.2.1 hd hq (ov_tg_eq ht) (kk ls H locs hl hH hS)
      · cases h
    · rename_i hq
      split at h
      · rename_i off ho
        unfold ov_go at h
        split at h
        · rename_i t ht
          cases h
          intro ls H locs hl hH hS
          exact lv_tableIn X.1 X.2.1 hd (fun z => hq (Or.inl z)) (fun z => hq (Or.inr z)) ho (ov_tg_eq ht) (kk ls H locs hl hH hS)
        · cases h
      · cases h
  · cases h
theorem ov_s_lsw (X : ov_X p s m args meth c D M) {dd : Int} {ps : Array (Int × Int)} {ln : Nat} (hd : decode (ov_byt M) pc = .ok (.lookupswitch dd ps, ln)) (h : ov_lk dd ps pc lv st μ = some x') (kk : ov_W p l e R s m args below meth c Q D b h0 n0 z0 M x') : ov_W p l e R s m args below meth c Q D b h0 n0 z0 M (pc, lv, st, μ) := by
  unfold ov_lk at h
  split at h
  · split at h
    · rename_i hq
      unfold ov_go at h
      split at h
      · rename_i t ht
        cases h
        intro ls H locs hl hH hS
        exact lv_lookup X.1 X.2.1 hd hq rfl (ov_tg_eq ht) (kk ls H locs hl hH hS)
      · cases h
    · cases h
  · cases h
theorem ov_key (i : Nat) (k : Nat) : (i * 32 + ov_oc k) % 32 = ov_oc k ∧ (i * 32 + ov_oc k) / 32 = i := by
  have := ov_oc_lt k
  omega
theorem ov_s_ldc (X : ov_X p s m args meth c D M) {idx : Nat} (hd : decode (ov_byt M) pc = .ok (.ldc idx, 2)) (h : (ov_find ov_kt (idx * 32 + ov_oc M)).map (fun v => ((pc + 2, lv, .int v.1 :: st, μ) : ov_Cfg)) = some x') (kk : ov_W p l e R s m args below meth c Q D b h0 n0 z0 M x') : ov_W p l e R s m args below meth c Q D b h0 n0 z0 M (pc, lv, st, μ) := by
  cases hf : ov_find ov_kt (idx * 32 + ov_oc M) with
  | none => rw [hf] at h; cases h
  | some v =>
    rw [hf] at h
    cases h
    intro ls H locs hl hH hS
    have h1 := ov_ixm (List.all_eq_true.mp ov_kall _ (ov_find_mem hf))
    dsimp only at h1
    rw [(ov_key idx M).1, (ov_key idx M).2] at h1
    exact lv_ldc (own := ov_cname (ov_oc M)) X.1 X.2.1 X.2.2.2.1 (X.2.2.2.2.1 _ h1) hd (kk ls H locs hl hH hS)
theorem ov_s_ldc_w (X : ov_X p s m args meth c D M) {idx : Nat} (hd : decode (ov_byt M) pc = .ok (.ldc_w idx, 3)) (h : (ov_find ov_kt (idx * 32 + ov_oc M)).map (fun v => ((pc + 3, lv, .int v.1 :: st, μ) : ov_Cfg)) = some x') (kk : ov_W p l e R s m args below meth c Q D b h0 n0 z0 M x') : ov_W p l e R s m args below meth c Q D b h0 n0 z0 M (pc, lv, st, μ) := by
  cases hf : ov_find ov_kt (idx * 32 + ov_oc M) with
  | none => rw [hf] at h; cases h
  | some v =>
    rw [hf] at h
    cases h
    intro ls H locs hl hH hS
    have h1 := ov_ixm (List.all_eq_true.mp ov_kall _ (ov_find_mem hf))
    dsimp only at h1
    rw [(ov_key idx M).1, (ov_key idx M).2] at h1
    exact lv_ldcw (own := ov_cname (ov_oc M)) X.1 X.2.1 X.2.2.2.1 (X.2.2.2.2.1 _ h1) hd (kk ls H locs hl hH hS)
theorem ov_s_ldc2_w (X : ov_X p s m args meth c D M) {idx : Nat} (hd : decode (ov_byt M) pc = .ok (.ldc2_w idx, 3)) (h : (ov_find ov_k2t (idx * 32 + ov_oc M)).map (fun v => ((pc + 3, lv, .long v.1 :: st, μ) : ov_Cfg)) = some x') (kk : ov_W p l e R s m args below meth c Q D b h0 n0 z0 M x') : ov_W p l e R s m args below meth c Q D b h0 n0 z0 M (pc, lv, st, μ) := by
  cases hf : ov_find ov_k2t (idx * 32 + ov_oc M) with
  | none => rw [hf] at h; cases h
  | some v =>
    rw [hf] at h
    cases h
    intro ls H locs hl hH hS
    have h1 := ov_ixm (List.all_eq_true.mp ov_k2all _ (ov_find_mem hf))
    dsimp only at h1
    rw [(ov_key idx M).1, (ov_key idx M).2] at h1
    exact lv_ldc2 (own := ov_cname (ov_oc M)) X.1 X.2.1 X.2.2.2.1 (X.2.2.2.2.1 _ h1) hd (kk ls H locs hl hH hS)
end ov_S
