-- THE PURE MACHINE: a frame at an instruction over a heap of numbered cells; cell 0 is the script
abbrev ov_Sh : Type := Nat × Nat × Nat
abbrev ov_Mem : Type := List ov_Sh × (Nat → Nat → Value)
abbrev ov_Cfg : Type := Nat × List (Option Value) × List Value × ov_Mem
def ov_find {α : Type} (tab : List (Nat × α)) (k : Nat) : Option α := (tab.find? (fun e => Nat.beq e.1 k)).map (fun e => e.2)
theorem ov_find_mem {α : Type} {tab : List (Nat × α)} {k : Nat} {x : α} (h : ov_find tab k = some x) : (k, x) ∈ tab := by
  unfold ov_find at h
  cases hf : tab.find? (fun e => Nat.beq e.1 k) with
  | none => rw [hf] at h; cases h
  | some q =>
    rw [hf] at h
    have h1 := List.find?_some hf
    have h2 : q.1 = k := Nat.eq_of_beq_eq_true h1
    have h3 : q.2 = x := Option.some.inj h
    have h4 := List.mem_of_find?_eq_some hf
    rw [← h2, ← h3]
    exact h4
def ov_two (o : Option Value) : Bool := match o with
  | some (.long _) => true
  | some (.double _) => true
  | _ => false
def ov_cut (w : Bool) (r : List (Option Value)) : List (Option Value) := match w, r with
  | true, _ :: r' => none :: r'
  | _, r => r
def ov_ls : List (Option Value) → Nat → Value → List (Option Value)
  | [], _, _ => []
  | _ :: r, 0, v => some v :: ov_cut (ov_two (some v)) r
  | o :: r, i + 1, v => (match i, ov_two o with
    | 0, true => none
    | _, _ => o) :: ov_ls r i v
def ov_aty (t : Nat) : FieldType := match t with
  | 1 => .int
  | 2 => .boolean
  | _ => .object "OnlyEntrances$Stage"
def ov_rp (μ : ov_Mem) (a : Nat) (g : Nat → Value) : ov_Mem := (μ.1, fun i => if i = a then g else μ.2 i)
def ov_nw (μ : ov_Mem) (sh : ov_Sh) (g : Nat → Value) : ov_Mem := (μ.1 ++ [sh], fun i => if i = μ.1.length then g else μ.2 i)
def ov_sz (l : List ov_Sh) : Nat := (l.map (fun x => x.2.2)).sum
def ov_fit (ty : FieldType) (v : Value) : Bool := match ty, v with
  | .int, .int _ => true
  | .long, .long _ => true
  | .object _, .ref _ => true
  | .array _, .ref _ => true
  | _, _ => false
def ov_tg (pc : Nat) (off : Int) : Option Nat := if (pc : Int) + off < 0 then none else some ((pc : Int) + off).toNat
def ov_len (i : Instr) : Nat := match i with
  | .bipush _ | .ldc _ | .iload _ | .lload _ | .aload _ | .istore _ | .lstore _ | .astore _ | .newarray _ => 2
  | .sipush _ | .ldc_w _ | .ldc2_w _ | .iinc _ _ | .ifCond _ _ | .if_icmp _ _ | .goto _ | .getfield _ | .putfield _ | .new _ | .anewarray _ | .invokespecial _ | .invokestatic _ | .invokevirtual _ => 3
  | _ => 1
def ov_ldI (n k pc : Nat) (lv : List (Option Value)) (st : List Value) (μ : ov_Mem) : Option ov_Cfg := match lv.getD k none with
  | some (.int x) => some (pc + n, lv, .int x :: st, μ)
  | _ => none
def ov_ldL (n k pc : Nat) (lv : List (Option Value)) (st : List Value) (μ : ov_Mem) : Option ov_Cfg := match lv.getD k none with
  | some (.long x) => some (pc + n, lv, .long x :: st, μ)
  | _ => none
def ov_ldA (n k pc : Nat) (lv : List (Option Value)) (st : List Value) (μ : ov_Mem) : Option ov_Cfg := match lv.getD k none with
  | some (.ref x) => some (pc + n, lv, .ref x :: st, μ)
  | _ => none
def ov_stI (n k pc : Nat) (lv : List (Option Value)) (st : List Value) (μ : ov_Mem) : Option ov_Cfg := match st, Nat.blt k lv.length with
  | .int x :: r, true => some (pc + n, ov_ls lv k (.int x), r, μ)
  | _, _ => none
def ov_stL (n k pc : Nat) (lv : List (Option Value)) (st : List Value) (μ : ov_Mem) : Option ov_Cfg := match st, Nat.blt (k + 1) lv.length with
  | .long x :: r, true => some (pc + n, ov_ls lv k (.long x), r, μ)
  | _, _ => none
def ov_stA (n k pc : Nat) (lv : List (Option Value)) (st : List Value) (μ : ov_Mem) : Option ov_Cfg := match st, Nat.blt k lv.length with
  | .ref x :: r, true => some (pc + n, ov_ls lv k (.ref x), r, μ)
  | _, _ => none
def ov_inc (k : Nat) (n : Int) (pc : Nat) (lv : List (Option Value)) (st : List Value) (μ : ov_Mem) : Option ov_Cfg := match lv.getD k none with
  | some (.int x) => some (pc + 3, ov_ls lv k (.int (x + Int32.ofInt n)), st, μ)
  | _ => none
def ov_ii (f : Int32 → Int32 → Int32) (pc : Nat) (lv : List (Option Value)) (st : List Value) (μ : ov_Mem) : Option ov_Cfg := match st with
  | .int y :: .int x :: r => some (pc + 1, lv, .int (f x y) :: r, μ)
  | _ => none
def ov_iz (f : Int32 → Int32 → Int32) (pc : Nat) (lv : List (Option Value)) (st : List Value) (μ : ov_Mem) : Option ov_Cfg := match st with
  | .int y :: .int x :: r => if y = 0 then none else some (pc + 1, lv, .int (f x y) :: r, μ)
  | _ => none
def ov_ll (f : Int64 → Int64 → Int64) (pc : Nat) (lv : List (Option Value)) (st : List Value) (μ : ov_Mem) : Option ov_Cfg := match st with
  | .long y :: .long x :: r => some (pc + 1, lv, .long (f x y) :: r, μ)
  | _ => none
def ov_lz (f : Int64 → Int64 → Int64) (pc : Nat) (lv : List (Option Value)) (st : List Value) (μ : ov_Mem) : Option ov_Cfg := match st with
  | .long y :: .long x :: r => if y = 0 then none else some (pc + 1, lv, .long (f x y) :: r, μ)
  | _ => none
def ov_li (f : Int64 → Int32 → Int64) (pc : Nat) (lv : List (Option Value)) (st : List Value) (μ : ov_Mem) : Option ov_Cfg := match st with
  | .int y :: .long x :: r => some (pc + 1, lv, .long (f x y) :: r, μ)
  | _ => none
def ov_i1 (f : Int32 → Value) (pc : Nat) (lv : List (Option Value)) (st : List Value) (μ : ov_Mem) : Option ov_Cfg := match st with
  | .int x :: r => some (pc + 1, lv, f x :: r, μ)
  | _ => none
def ov_l1 (f : Int64 → Value) (pc : Nat) (lv : List (Option Value)) (st : List Value) (μ : ov_Mem) : Option ov_Cfg := match st with
  | .long x :: r => some (pc + 1, lv, f x :: r, μ)
  | _ => none
def ov_cm (pc : Nat) (lv : List (Option Value)) (st : List Value) (μ : ov_Mem) : Option ov_Cfg := match st with
  | .long y :: .long x :: r => some (pc + 1, lv, .int (lg_cmp x y) :: r, μ)
  | _ => none
def ov_dup (pc : Nat) (lv : List (Option Value)) (st : List Value) (μ : ov_Mem) : Option ov_Cfg := match st with
  | v :: r => if v.category = 1 then some (pc + 1, lv, v :: v :: r, μ) else none
  | _ => none
def ov_dup2 (pc : Nat) (lv : List (Option Value)) (st : List Value) (μ : ov_Mem) : Option ov_Cfg := match st with
  | v :: w :: r => if v.category = 1 then (if w.category = 1 then some (pc + 1, lv, v :: w :: v :: w :: r, μ) else none) else none
  | _ => none
def ov_pop (pc : Nat) (lv : List (Option Value)) (st : List Value) (μ : ov_Mem) : Option ov_Cfg := match st with
  | v :: r => if v.category = 1 then some (pc + 1, lv, r, μ) else none
  | _ => none
def ov_if (P : Int32 → Bool) (off : Int) (pc : Nat) (lv : List (Option Value)) (st : List Value) (μ : ov_Mem) : Option ov_Cfg := match st, ov_tg pc off with
  | .int x :: r, some t => some (bif P x then t else pc + 3, lv, r, μ)
  | _, _ => none
def ov_cmp (P : Int32 → Int32 → Bool) (off : Int) (pc : Nat) (lv : List (Option Value)) (st : List Value) (μ : ov_Mem) : Option ov_Cfg := match st, ov_tg pc off with
  | .int y :: .int x :: r, some t => some (bif P x y then t else pc + 3, lv, r, μ)
  | _, _ => none
def ov_cc (c : ClassFile.Cond) (x y : Int32) : Bool := match c with
  | .eq => decide (x = y)
  | .ne => !decide (x = y)
  | .lt => decide (x < y)
  | .ge => decide (y ≤ x)
  | .gt => decide (y < x)
  | .le => decide (x ≤ y)
def ov_go (off : Int) (pc : Nat) (lv : List (Option Value)) (st : List Value) (μ : ov_Mem) : Option ov_Cfg := match ov_tg pc off with
  | some t => some (t, lv, st, μ)
  | none => none
def ov_ts (d lo hi : Int) (offs : Array Int) (pc : Nat) (lv : List (Option Value)) (st : List Value) (μ : ov_Mem) : Option ov_Cfg := match st with
  | .int x :: r => if x.toInt < lo ∨ hi < x.toInt then ov_go d pc lv r μ else (match offs[(x.toInt - lo).toNat]? with
    | some off => ov_go off pc lv r μ
    | none => none)
  | _ => none
def ov_lk (d : Int) (ps : Array (Int × Int)) (pc : Nat) (lv : List (Option Value)) (st : List Value) (μ : ov_Mem) : Option ov_Cfg := match st with
  | .int x :: r => if (ps.toList.zip (ps.toList.drop 1)).all (fun (a, next) => a.1 < next.1) = true then ov_go (Op.lookupswitch.offset ps.toList d x.toInt) pc lv r μ else none
  | _ => none
def ov_gf (oc idx pc : Nat) (lv : List (Option Value)) (st : List Value) (μ : ov_Mem) : Option ov_Cfg := match st, ov_find ov_ft (idx * 32 + oc) with
  | .ref a :: r, some (ci, k, _, _) => (match μ.1[a]? with
    | some (0, c, _) => bif Nat.beq c ci then some (pc + 3, lv, μ.2 a k :: r, μ) else none
    | _ => none)
  | _, _ => none
def ov_pf (oc idx : Nat) (ini : Bool) (pc : Nat) (lv : List (Option Value)) (st : List Value) (μ : ov_Mem) : Option ov_Cfg := match st, ov_find ov_ft (idx * 32 + oc) with
  | v :: .ref a :: r, some (ci, k, fin, _) => (match μ.1[a]? with
    | some (0, c, _) => bif Nat.beq c ci && ov_fit (ov_ty ci k) v && (!fin || (ini && Nat.beq oc (ci + 1))) then some (pc + 3, lv, r, ov_rp μ a (updV (μ.2 a) k v)) else none
    | _ => none)
  | _, _ => none
def ov_al (pc : Nat) (lv : List (Option Value)) (st : List Value) (μ : ov_Mem) : Option ov_Cfg := match st with
  | .ref 0 :: r => (match μ.1[0]? with
    | some (9, _, n) => some (pc + 1, lv, .int (Int32.ofNat n) :: r, μ)
    | _ => none)
  | _ => none
def ov_rd (t : Nat) (pc : Nat) (lv : List (Option Value)) (st : List Value) (μ : ov_Mem) : Option ov_Cfg := match st with
  | .int j :: .ref a :: r => (match μ.1[a]? with
    | some (u, _, n) => if u = t then (if j < 0 ∨ n ≤ j.toNatClampNeg then none else some (pc + 1, lv, μ.2 a j.toNatClampNeg :: r, μ)) else none
    | none => none)
  | _ => none
def ov_rdI (pc : Nat) (lv : List (Option Value)) (st : List Value) (μ : ov_Mem) : Option ov_Cfg := match st with
  | .int j :: .ref 0 :: r => ov_rd 9 pc lv (.int j :: .ref 0 :: r) μ
  | st => ov_rd 1 pc lv st μ
def ov_wr (t : Nat) (f : Value → Option Value) (pc : Nat) (lv : List (Option Value)) (st : List Value) (μ : ov_Mem) : Option ov_Cfg := match st with
  | v :: .int j :: .ref a :: r => (match μ.1[a]?, f v with
    | some (u, _, n), some w => if u = t then (if j < 0 ∨ n ≤ j.toNatClampNeg then none else some (pc + 1, lv, r, ov_rp μ a (updV (μ.2 a) j.toNatClampNeg w))) else none
    | _, _ => none)
  | _ => none
def ov_vI (v : Value) : Option Value := match v with
  | .int x => some (.int x)
  | _ => none
def ov_vZ (v : Value) : Option Value := match v with
  | .int x => some (narrow .boolean (.int x))
  | _ => none
def ov_vS (μ : ov_Mem) (v : Value) : Option Value := match v with
  | .ref (a + 1) => (match μ.1[a + 1]? with
    | some (0, 3, _) => some (.ref (a + 1))
    | _ => none)
  | _ => none
def ov_na (ty : ArrayType) (pc : Nat) (lv : List (Option Value)) (st : List Value) (μ : ov_Mem) : Option ov_Cfg := match ty, st with
  | .int, .int n :: r => if n < 0 then none else (if n.toNatClampNeg ≤ 1000 then some (pc + 2, lv, .ref μ.1.length :: r, ov_nw μ (1, 0, n.toNatClampNeg) (fun _ => .int 0)) else none)
  | .boolean, .int n :: r => if n < 0 then none else (if n.toNatClampNeg ≤ 1000 then some (pc + 2, lv, .ref μ.1.length :: r, ov_nw μ (2, 0, n.toNatClampNeg) (fun _ => .int 0)) else none)
  | _, _ => none
def ov_an (oc idx pc : Nat) (lv : List (Option Value)) (st : List Value) (μ : ov_Mem) : Option ov_Cfg := match st, ov_find ov_nt (idx * 32 + oc) with
  | .int n :: r, some (3, _) => if n < 0 then none else (if n.toNatClampNeg ≤ 1000 then some (pc + 3, lv, .ref μ.1.length :: r, ov_nw μ (3, 0, n.toNatClampNeg) (fun _ => .null)) else none)
  | _, _ => none
def ov_ne (oc idx pc : Nat) (lv : List (Option Value)) (st : List Value) (μ : ov_Mem) : Option ov_Cfg := match ov_find ov_nt (idx * 32 + oc) with
  | some (ci, _) => (match ov_cl[ci]? with
    | some q => some (pc + 3, lv, .ref μ.1.length :: st, ov_nw μ (0, ci, q.2.2) (fun k => defaultValue (ov_ty ci k)))
    | none => none)
  | none => none
def ov_oi (oc idx pc : Nat) (lv : List (Option Value)) (st : List Value) (μ : ov_Mem) : Option ov_Cfg := match st, ov_find ov_it (idx * 32 + oc) with
  | .ref _ :: r, some _ => if (r.map fun v => v.category).sum ≤ 8 then some (pc + 3, lv, r, μ) else none
  | _, _ => none
def ov_isI (v : Value) : Bool := match v with
  | .int _ => true
  | _ => false
def ov_cy (oc idx pc : Nat) (lv : List (Option Value)) (st : List Value) (μ : ov_Mem) : Option ov_Cfg := match st, ov_find ov_ct (idx * 32 + oc) with
  | .int n :: .int dp :: .ref (a + 1) :: .int sp :: .ref (a0 + 1) :: r, some _ => (match μ.1[a0 + 1]?, μ.1[a + 1]? with
    | some (1, _, n0), some (1, _, n1) => if n < 0 ∨ dp < 0 ∨ sp < 0 ∨ n0 < sp.toNatClampNeg + n.toNatClampNeg ∨ n1 < dp.toNatClampNeg + n.toNatClampNeg ∨ 8 < (r.map fun v => v.category).sum then none
        else some (pc + 3, lv, r, ov_rp μ (a + 1) (va_cpy (μ.2 (a0 + 1)) (μ.2 (a + 1)) sp.toNatClampNeg dp.toNatClampNeg n.toNatClampNeg))
    | _, _ => none)
  | _, _ => none
def ov_mth (op pc : Nat) (lv : List (Option Value)) (st : List Value) (μ : ov_Mem) : Option ov_Cfg := match op, st with
  | 0, .int x :: r => if 8 < (r.map fun v => v.category).sum then none else some (pc + 3, lv, .int (if 0 ≤ x then x else 0 - x) :: r, μ)
  | 1, .int y :: .int x :: r => if 8 < (r.map fun v => v.category).sum then none else some (pc + 3, lv, .int (if x < y then y else x) :: r, μ)
  | 2, .long x :: r => if 8 < (r.map fun v => v.category).sum then none else some (pc + 3, lv, .long (if 0 < x then x else -x) :: r, μ)
  | _, _ => none
def ov_sta (oc idx pc : Nat) (lv : List (Option Value)) (st : List Value) (μ : ov_Mem) : Option ov_Cfg := match ov_find ov_xt (idx * 32 + oc) with
  | some (op, _) => ov_mth op pc lv st μ
  | none => ov_cy oc idx pc lv st μ
def ov_step1 (oc : Nat) (ini : Bool) (i : Instr) (pc : Nat) (lv : List (Option Value)) (st : List Value) (μ : ov_Mem) : Option ov_Cfg := match i with
  | .iconst k => some (pc + 1, lv, .int (Int32.ofInt k) :: st, μ)
  | .bipush k => some (pc + 2, lv, .int (Int8.ofInt k).toInt32 :: st, μ)
  | .sipush k => some (pc + 3, lv, .int (Int16.ofInt k).toInt32 :: st, μ)
  | .lconst k => some (pc + 1, lv, .long (Int64.ofNat (k : Nat)) :: st, μ)
  | .ldc idx => (ov_find ov_kt (idx * 32 + oc)).map fun v => (pc + 2, lv, .int v.1 :: st, μ)
  | .ldc_w idx => (ov_find ov_kt (idx * 32 + oc)).map fun v => (pc + 3, lv, .int v.1 :: st, μ)
  | .ldc2_w idx => (ov_find ov_k2t (idx * 32 + oc)).map fun v => (pc + 3, lv, .long v.1 :: st, μ)
  | .iload k => ov_ldI 2 k pc lv st μ
  | .iload_n k => ov_ldI 1 k pc lv st μ
  | .lload k => ov_ldL 2 k pc lv st μ
  | .lload_n k => ov_ldL 1 k pc lv st μ
  | .aload k => ov_ldA 2 k pc lv st μ
  | .aload_n k => ov_ldA 1 k pc lv st μ
  | .istore k => ov_stI 2 k pc lv st μ
  | .istore_n k => ov_stI 1 k pc lv st μ
  | .lstore k => ov_stL 2 k pc lv st μ
  | .lstore_n k => ov_stL 1 k pc lv st μ
  | .astore k => ov_stA 2 k pc lv st μ
  | .astore_n k => ov_stA 1 k pc lv st μ
  | .iinc k n => ov_inc k n pc lv st μ
  | .iadd => ov_ii (fun x y => x + y) pc lv st μ
  | .isub => ov_ii (fun x y => x - y) pc lv st μ
  | .imul => ov_ii (fun x y => x * y) pc lv st μ
  | .iand => ov_ii (fun x y => x &&& y) pc lv st μ
  | .ior => ov_ii (fun x y => x ||| y) pc lv st μ
  | .ixor => ov_ii (fun x y => x ^^^ y) pc lv st μ
  | .ishl => ov_ii (fun x y => x <<< (y &&& 31)) pc lv st μ
  | .ishr => ov_ii (fun x y => x >>> (y &&& 31)) pc lv st μ
  | .iushr => ov_ii (fun x y => (x.toUInt32 >>> (y.toUInt32 &&& Int32.toUInt32 31)).toInt32) pc lv st μ
  | .idiv => ov_iz (fun x y => x / y) pc lv st μ
  | .irem => ov_iz (fun x y => x - x / y * y) pc lv st μ
  | .ineg => ov_i1 (fun x => .int (-x)) pc lv st μ
  | .ladd => ov_ll (fun x y => x + y) pc lv st μ
  | .lsub => ov_ll (fun x y => x - y) pc lv st μ
  | .lmul => ov_ll (fun x y => x * y) pc lv st μ
  | .land => ov_ll (fun x y => x &&& y) pc lv st μ
  | .lor => ov_ll (fun x y => x ||| y) pc lv st μ
  | .ldiv => ov_lz (fun x y => x / y) pc lv st μ
  | .lrem => ov_lz (fun x y => x - x / y * y) pc lv st μ
  | .lneg => ov_l1 (fun x => .long (-x)) pc lv st μ
  | .lshl => ov_li (fun x y => x <<< (y.toInt64 &&& 63)) pc lv st μ
  | .lushr => ov_li (fun x y => (x.toUInt64 >>> (y.toInt64.toUInt64 &&& Int64.toUInt64 63)).toInt64) pc lv st μ
  | .i2l => ov_i1 (fun x => .long x.toInt64) pc lv st μ
  | .l2i => ov_l1 (fun x => .int x.toInt32) pc lv st μ
  | .lcmp => ov_cm pc lv st μ
  | .dup => ov_dup pc lv st μ
  | .dup2 => ov_dup2 pc lv st μ
  | .pop => ov_pop pc lv st μ
  | .ifCond c off => ov_if (fun x => ov_cc c x 0) off pc lv st μ
  | .if_icmp c off => ov_cmp (fun x y => ov_cc c x y) off pc lv st μ
  | .goto off => ov_go off pc lv st μ
  | .tableswitch d lo hi offs => ov_ts d lo hi offs pc lv st μ
  | .lookupswitch d ps => ov_lk d ps pc lv st μ
  | .getfield idx => ov_gf oc idx pc lv st μ
  | .putfield idx => ov_pf oc idx ini pc lv st μ
  | .arraylength => ov_al pc lv st μ
  | .iaload => ov_rdI pc lv st μ
  | .baload => ov_rd 2 pc lv st μ
  | .aaload => ov_rd 3 pc lv st μ
  | .iastore => ov_wr 1 ov_vI pc lv st μ
  | .bastore => ov_wr 2 ov_vZ pc lv st μ
  | .aastore => ov_wr 3 (ov_vS μ) pc lv st μ
  | .newarray ty => ov_na ty pc lv st μ
  | .anewarray idx => ov_an oc idx pc lv st μ
  | .new idx => ov_ne oc idx pc lv st μ
  | .invokespecial idx => ov_oi oc idx pc lv st μ
  | .invokestatic idx => ov_sta oc idx pc lv st μ
  | _ => none
def ov_sw (i : Instr) : Bool := match i with
  | .tableswitch _ _ _ _ => true
  | .lookupswitch _ _ => true
  | _ => false
def ov_ini (M : Nat) : Bool := decide ((ov_nm M).name = "<init>")
def ov_step (M : Nat) (x : ov_Cfg) : Option ov_Cfg := match decode (ov_byt M) x.1 with
  | .ok (i, n) => bif ov_sw i || Nat.beq n (ov_len i) then ov_step1 (ov_oc M) (ov_ini M) i x.1 x.2.1 x.2.2.1 x.2.2.2 else none
  | _ => none
-- calls
def ov_as (vs : List Value) : List (Option Value) := vs.flatMap fun v => if v.category = 2 then [some v, none] else [some v]
def ov_ent (M : Nat) (vs : List Value) (μ : ov_Mem) : ov_Cfg := (0, ov_as vs ++ List.replicate (ov_mx M - (ov_as vs).length) none, [], μ)
def ov_ca (kind M : Nat) (st : List Value) (μ : ov_Mem) : Option (Nat × List Value × List Value) :=
  bif Nat.ble (ov_np M) st.length && Nat.ble (ov_as ((st.take (ov_np M)).reverse)).length (ov_mx M - (if kind = 0 then 0 else 1)) then
    (match kind, st.drop (ov_np M) with
     | 0, r => bif Nat.ble (r.map fun v => v.category).sum 8 then some (M, (st.take (ov_np M)).reverse, r) else none
     | 1, .ref (a + 1) :: r => (match μ.1[a + 1]? with
        | some (0, c, _) => bif Nat.beq (ov_oc M) (c + 1) && Nat.ble (r.map fun v => v.category).sum 8 && Nat.blt 0 (ov_mx M) then some (M, .ref (a + 1) :: (st.take (ov_np M)).reverse, r) else none
        | _ => none)
     | 2, .ref (a + 1) :: r => bif Nat.ble (r.map fun v => v.category).sum 8 && Nat.blt 0 (ov_mx M) then some (M, .ref (a + 1) :: (st.take (ov_np M)).reverse, r) else none
     | _, _ => none)
  else none
def ov_lkd (M idx kind : Nat) (st : List Value) (μ : ov_Mem) : Option (Nat × List Value × List Value) := match ov_find ov_lt (idx * 32 + ov_oc M) with
  | some (k, y, _) => bif Nat.beq k kind then ov_ca kind y st μ else none
  | none => none
def ov_inv (M : Nat) (x : ov_Cfg) : Option (Nat × List Value × List Value) := match decode (ov_byt M) x.1 with
  | .ok (.invokestatic idx, 3) => ov_lkd M idx 0 x.2.2.1 x.2.2.2
  | .ok (.invokevirtual idx, 3) => ov_lkd M idx 1 x.2.2.1 x.2.2.2
  | .ok (.invokespecial idx, 3) => ov_lkd M idx 2 x.2.2.1 x.2.2.2
  | _ => none
def ov_ret (M : Nat) (x : ov_Cfg) : Option (Option Value) := match decode (ov_byt M) x.1, ov_rt M, x.2.2.1 with
  | .ok (.ireturn, 1), some .int, [.int v] => some (some (.int v))
  | .ok (.ireturn, 1), some .boolean, [.int v] => if v = 0 ∨ v = 1 then some (some (.int v)) else none
  | .ok (.lreturn, 1), some .long, [.long v] => some (some (.long v))
  | .ok (.return_, 1), none, [] => some none
  | _, _, _ => none
abbrev ov_CT : Type := Nat → List Value → ov_Mem → Option Value → ov_Mem → Prop
def ov_I (C : ov_CT) (M : Nat) (x z : ov_Cfg) : Prop :=
  ov_step M x = some z ∨ ∃ (y : Nat) (as r : List Value) (rv : Option Value) (μ' : ov_Mem), ov_inv M x = some (y, as, r) ∧ C y as x.2.2.2 rv μ' ∧ z = (x.1 + 3, x.2.1, rv.toList ++ r, μ')
def ov_N (C : ov_CT) (M : Nat) : Nat → ov_Cfg → ov_Cfg → Prop
  | 0, x, y => x = y
  | k + 1, x, y => ∃ z, ov_I C M x z ∧ ov_N C M k z y
def ov_C : Nat → ov_CT
  | 0 => fun _ _ _ _ _ => False
  | d + 1 => fun M as μ rv μ' => ∃ (k : Nat) (x : ov_Cfg), ov_N (ov_C d) M k (ov_ent M as μ) x ∧ ov_ret M x = some rv ∧ x.2.2.2 = μ'
