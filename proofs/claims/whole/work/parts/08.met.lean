-- CALLS, AND THE CONTRACT OF EVERY METHOD
def ov_ws (M : Nat) : List Cond := Cond.code (ov_nm M) (ov_byt M) (ov_mx M) (ov_rt M) :: ov_tt
def ov_rm (d mc ms : Nat) : Room := { frames := d, cells := mc, slots := ms, locals := 64 * d }
def ov_Pc (D : ov_G) (b h0 : Nat) (as : List Value) (μ : ov_Mem) : Array Value → State → Prop := va_Pc (as.map (ov_cv b h0)) (fun U => ov_HP D b h0 U μ U.heap ∧ ov_KK D U)
def ov_Qc (D : ov_G) (b h0 : Nat) (rv : Option Value) (μ : ov_Mem) : Array Value → State → Outcome → State → Prop := fun _ st o t =>
  o = .returned (rv.map (ov_cv b h0)) ∧ ov_HP D b h0 t μ t.heap ∧ st.heap.size ≤ t.heap.size ∧ ∀ q : Nat, q < h0 → q < st.heap.size → t.heap[q]? = st.heap[q]?
def ov_Ok (d : Nat) (l : Launch) (D : ov_G) (b h0 : Nat) : Prop := ∀ (y : Nat) (as : List Value) (μ : ov_Mem) (rv : Option Value) (μ' : ov_Mem), y ∈ ov_ml → (ov_as as).length ≤ ov_mx y → ov_C d y as μ rv μ' →
  Met l (ov_nm y) (ov_ws y) (ov_rm d (μ'.1.length - μ.1.length) (ov_sz μ'.1 - ov_sz μ.1)) (ov_Pc D b h0 as μ) (ov_Qc D b h0 rv μ') (μ'.1.length - μ.1.length) (ov_sz μ'.1 - ov_sz μ.1) (fun q => h0 ≤ q)
theorem ov_goodT (y : Nat) (hy : y ∈ ov_ml) : GoodIn ov_tt (ov_ws y) := by
  intro w hw
  have h2 : w ∈ ov_tt := by
    rcases List.mem_cons.mp hw with h | h
    · rw [h]; exact ov_mlP y hy
    · exact h
  exact ⟨h2, good_of_word (List.mem_filter.mp h2).2⟩
theorem ov_mfacts {y : Nat} (hy : y ∈ ov_ml) : plainName (ov_nm y).cls = true ∧ Cond.initialized (ov_nm y).cls ∈ ov_tt ∧ ((ov_nm y).cls ≠ "java/lang/invoke/MethodHandle" ∧ (ov_nm y).cls ≠ "java/lang/invoke/VarHandle") ∧ (parseMethodDescriptor (ov_nm y).desc).map (fun d => d.parameters.length) = some (ov_np y) ∧ ov_mx y ≤ 40 := by
  have h := List.all_eq_true.mp ov_mlOK y hy
  unfold ov_mOK at h
  simp only [Bool.and_eq_true, decide_eq_true_eq] at h
  obtain ⟨⟨⟨⟨h1, h2⟩, h3⟩, h4⟩, h5⟩ := h
  exact ⟨h1, ov_ixm h2, h3, h4, Nat.le_of_ble_eq_true h5⟩
theorem ov_link {M idx k y : Nat} {w : Nat × Nat × Nat} (hf : ov_find ov_lt (idx * 32 + ov_oc M) = some (k, y, w)) : Cond.methodLink (ov_cname (ov_oc M)) idx (ov_nm y) ∈ ov_tt ∧ y ∈ ov_ml ∧ (k = 0 → Cond.static (ov_nm y) ∈ ov_tt) ∧
    (k = 1 → Cond.instanceMethod (ov_nm y) ∈ ov_tt ∧ Cond.selects (ov_nm y).cls (ov_nm y) (ov_nm y) ∈ ov_tt) ∧ (k = 2 → Cond.instanceMethod (ov_nm y) ∈ ov_tt ∧ (ov_nm y).name = "<init>" ∧ ov_rt y = none) := by
  have h := List.all_eq_true.mp ov_lall _ (ov_find_mem hf)
  unfold ov_lOK at h
  dsimp only at h
  rw [(ov_key idx M).1, (ov_key idx M).2] at h
  simp only [Bool.and_eq_true] at h
  obtain ⟨⟨h1, h2⟩, h3⟩ := h
  obtain ⟨y', hy1, hy2⟩ := List.any_eq_true.mp h2
  cases ov_beq hy2
  refine ⟨ov_ixm h1, hy1, fun z => ?_, fun z => ?_, fun z => ?_⟩
  · subst z
    exact ov_ixm h3
  · subst z
    simp only [Bool.and_eq_true] at h3
    exact ⟨ov_ixm h3.1, ov_ixm h3.2⟩
  · subst z
    simp only [Bool.and_eq_true, decide_eq_true_eq] at h3
    exact ⟨ov_ixm h3.1.1, h3.1.2, h3.2⟩
theorem ov_as_cons (v : Value) (vs : List Value) : ov_as (v :: vs) = (if v.category = 2 then [some v, none] else [some v]) ++ ov_as vs := rfl
section ov_S
variable {p : Program} {l : Launch} {e : Env} {R : Room} {s : State} {m : MethodId} {args : Array Value} {below : List Frame} {meth : Method} {c : Code} {Q : State → Prop}
variable {D : ov_G} {b h0 n0 z0 M : Nat}
theorem ov_blind {as : List Value} {μ : ov_Mem} : FrameBlind (ov_Pc D b h0 as μ) := by
  intro a U g mk q
  obtain ⟨q1, q2, q3⟩ := q
  exact ⟨q1, q2.moved (u := U) (U := U.calling g mk a) (Vm.Alike.refl U.vm), q3.moved (u := U) (U := U.calling g mk a) (Vm.Alike.refl U.vm)⟩
theorem ov_cb {d mc ms idx y : Nat} (X : ov_X p s m args meth c D M) (hRf : d + 1 ≤ R.frames) (hRl : 64 * (d + 1) ≤ R.locals) (hy : y ∈ ov_ml) (hl : Cond.methodLink (ov_cname (ov_oc M)) idx (ov_nm y) ∈ ov_tt) :
    CallB R s args (ov_cname (ov_oc M)) idx (ov_nm y) (ov_byt y) (ov_mx y) (ov_rt y) (ov_ws y) (ov_rm d mc ms) mc ms (ov_np y) := by
  obtain ⟨h1, h2, h3, h4, h5⟩ := ov_mfacts hy
  have hts := X.2.2.2.2.1
  exact callB_of (Ts := ov_tt) (ov_np y) hts (ov_goodT y hy) rfl rfl rfl (hts _ h2) (hts _ hl) ⟨h3.1, h3.2, h4⟩ ⟨hRf, by show 8 + (ov_mx y + 11) + 64 * d ≤ R.locals; omega⟩
/-- behind a call -/
theorem ov_after {pc : Nat} {rv : Option Value} {μ μ' : ov_Mem} {ls : Array Slot} {H : Heap} {locs : List Loc} {st rest : List Value} {lv : List (Option Value)} {a : Array Value}
    (hr : va_Run p l e R s m args below meth c H locs (μ.1.length - n0) (ov_sz μ.1 - z0) (μ'.1.length - μ.1.length) (ov_sz μ'.1 - ov_sz μ.1) (F0 m pc ls (st.map (ov_cv b h0))) (rest.map (ov_cv b h0)) (ov_Qc D b h0 rv μ' a) (fun q => h0 ≤ q))
    (hl : ov_LV b h0 ls (ov_mx M) lv) (hS : va_S (fun q => h0 ≤ q) s.heap H locs) (g1 : μ.1.length ≤ μ'.1.length) (g2 : ov_sz μ.1 ≤ ov_sz μ'.1) (hn : n0 ≤ μ.1.length) (hz : z0 ≤ ov_sz μ.1) 
    (kk : ov_W p l e R s m args below meth c Q D b h0 n0 z0 M (pc + 3, lv, rv.toList ++ rest, μ')) : W p l e R s m args below meth c H locs (μ.1.length - n0) (ov_sz μ.1 - z0) Q (F0 m pc ls (st.map (ov_cv b h0))) := by
  intro T hT XX
  obtain ⟨v, st₀, t, T', L, hh, X', hL, e1, e2, ⟨hv, hH, hzz, hk⟩, stp⟩ := hr T hT XX
  have hv : v = rv.map (ov_cv b h0) := by injection hv
  subst hv
  rw [hh] at hzz hk
  have hvm : t.vm.Alike s.vm := (by rw [← e2]; exact X'.warmed.alike : s.vm.Alike t.vm).symm
  have k2 := kk ls t.heap (locs ++ L) hl (hH.moved hvm) ⟨Nat.le_trans hS.1 hzz, fun q w1 w2 => by
      rw [hk q (Nat.not_le.mp w2) (Nat.lt_of_lt_of_le w1 hS.1)]
      exact hS.2.1 q w1 w2, fun q hq => by
      rcases List.mem_append.mp hq with h | h
      · exact hS.2.2 q h
      · exact hL q h⟩
  dsimp only at k2
  have eb1 : μ.1.length - n0 + (μ'.1.length - μ.1.length) = μ'.1.length - n0 := by omega
  have eb2 : ov_sz μ.1 - z0 + (ov_sz μ'.1 - ov_sz μ.1) = ov_sz μ'.1 - z0 := by omega
  rw [eb1, eb2] at X'
  obtain ⟨t2, a1, b1⟩ := k2 T' e1 X'
  refine ⟨t2, stp t2 ?_, b1⟩
  have e5 : (rv.toList ++ rest).map (ov_cv b h0) = (rv.map (ov_cv b h0)).toList ++ rest.map (ov_cv b h0) := by
    rw [List.map_append]
    cases rv <;> rfl
  rw [e5] at a1
  exact a1
theorem ov_split {st : List Value} {n : Nat} : st.map (ov_cv b h0) = (((st.take n).reverse).map (ov_cv b h0)).reverse ++ (st.drop n).map (ov_cv b h0) := by
  rw [List.map_reverse, List.reverse_reverse, ← List.map_append, List.take_append_drop]
set_option maxHeartbeats 2000000 in
theorem ov_inv_sound {d : Nat} (hOk : ov_Ok d l D b h0) (X : ov_X p s m args meth c D M) (hRf : d + 1 ≤ R.frames) (hRl : 64 * (d + 1) ≤ R.locals) {x : ov_Cfg} {y : Nat} {as r : List Value} {rv : Option Value} {μ' : ov_Mem} (h : ov_inv M x = some (y, as, r)) (hC : ov_C d y as x.2.2.2 rv μ') (hn : n0 ≤ x.2.2.2.1.length) (hz : z0 ≤ ov_sz x.2.2.2.1) (hc : μ'.1.length - n0 ≤ R.cells) (hs : ov_sz μ'.1 - z0 ≤ R.slots)
    (kk : ov_W p l e R s m args below meth c Q D b h0 n0 z0 M (x.1 + 3, x.2.1, rv.toList ++ r, μ')) : ov_W p l e R s m args below meth c Q D b h0 n0 z0 M x := by
  obtain ⟨pc, lv, st, μ⟩ := x
  obtain ⟨g1, g2⟩ := ov_growC d _ _ _ _ _ hC
  dsimp only at g1 g2 hn hz
  intro ls H locs hl hH hS
  have hS0 : CallFix p m c (ov_byt M) (ov_mx M) s args ov_tt (ov_cname (ov_oc M)) := ⟨X.1, X.2.1, X.2.2.1, X.2.2.2.1, X.2.2.2.2.1⟩
  have hcells : μ.1.length - n0 + (μ'.1.length - μ.1.length) ≤ R.cells ∧ ov_sz μ.1 - z0 + (ov_sz μ'.1 - ov_sz μ.1) ≤ R.slots := by omega
  have hKK := X.2.2.2.2.2.2
  have hpc : ∀ (as : List Value) (U : State), U.heap = H → s.WarmedH U.vm → ov_Pc D b h0 as μ ((as.map (ov_cv b h0))).toArray U := fun as U hU hW => ⟨rfl, by rw [hU]; exact hH.moved hW.alike, hKK.moved hW.alike⟩
  unfold ov_inv at h
  split at h
  · rename_i idx hd
    unfold ov_lkd at h
    split at h
    · rename_i k y' w hf
      cases hk : Nat.beq k 0 with
      | false => rw [hk] at h; cases h
      | true =>
        rw [hk] at h
        cases ov_beq hk
        obtain ⟨w1, w2, w3, -, -⟩ := ov_link hf
        unfold ov_ca at h
        cases hb : (Nat.ble (ov_np y') st.length && Nat.ble (ov_as ((st.take (ov_np y')).reverse)).length (ov_mx y' - (if 0 = 0 then 0 else 1))) with
        | false => rw [hb] at h; cases h
        | true =>
          rw [hb] at h
          simp only [cond_true] at h
          cases hb2 : Nat.ble ((st.drop (ov_np y')).map fun v => v.category).sum 8 with
          | false => rw [hb2] at h; cases h
          | true =>
            rw [hb2] at h
            cases h
            simp only [Bool.and_eq_true] at hb
            have hlen := Nat.le_of_ble_eq_true hb.1
            have hmx : (ov_as ((st.take (ov_np y)).reverse)).length ≤ ov_mx y := Nat.le_of_ble_eq_true hb.2
            have hM := hOk y _ μ rv μ' w2 hmx hC
            refine ov_after (rest := st.drop (ov_np y)) (va_runS hS0 hM ⟨ov_cb X hRf hRl w2 w1, X.2.2.2.2.1 _ (w3 rfl)⟩ ⟨ov_blind, hpc _⟩ rfl (by simp; omega) hl.1 ov_split (lv_room (by rw [ov_cats]; exact Nat.le_of_ble_eq_true hb2)) hd hcells) hl hS g1 g2 hn hz kk
    · cases h
  · rename_i idx hd
    unfold ov_lkd at h
    split at h
    · rename_i k y' w hf
      cases hk : Nat.beq k 1 with
      | false => rw [hk] at h; cases h
      | true =>
        rw [hk] at h
        cases ov_beq hk
        obtain ⟨w1, w2, -, w3, -⟩ := ov_link hf
        unfold ov_ca at h
        cases hb : (Nat.ble (ov_np y') st.length && Nat.ble (ov_as ((st.take (ov_np y')).reverse)).length (ov_mx y' - (if 1 = 0 then 0 else 1))) with
        | false => rw [hb] at h; cases h
        | true =>
          rw [hb] at h
          simp only [cond_true] at h
          simp only [Bool.and_eq_true] at hb
          generalize hst : List.drop (ov_np y') st = rr at h
          rcases rr with _ | ⟨v0, r'⟩
          · cases h
          rcases v0 with _ | _ | _ | _ | _ | a | _
          case ref =>
            rcases a with _ | a
            · cases h
            rcases ha : μ.1[a + 1]? with _ | ⟨u, ci, k1⟩
            · replace h : (match μ.1[a + 1]? with
                | some (0, c, _) => bif Nat.beq (ov_oc y') (c + 1) && Nat.ble (r'.map fun v => v.category).sum 8 && Nat.blt 0 (ov_mx y') then some (y', .ref (a + 1) :: (st.take (ov_np y')).reverse, r') else none
                | _ => none) = some (y, as, r) := h
              rw [ha] at h
              cases h
            rcases u with _ | u
            · replace h : (match μ.1[a + 1]? with
                | some (0, c, _) => bif Nat.beq (ov_oc y') (c + 1) && Nat.ble (r'.map fun v => v.category).sum 8 && Nat.blt 0 (ov_mx y') then some (y', .ref (a + 1) :: (st.take (ov_np y')).reverse, r') else none
                | _ => none) = some (y, as, r) := h
              rw [ha] at h
              replace h : (bif Nat.beq (ov_oc y') (ci + 1) && Nat.ble (r'.map fun v => v.category).sum 8 && Nat.blt 0 (ov_mx y') then some (y', .ref (a + 1) :: (st.take (ov_np y')).reverse, r') else none) = some (y, as, r) := h
              cases hb2 : (Nat.beq (ov_oc y') (ci + 1) && Nat.ble (r'.map fun v => v.category).sum 8 && Nat.blt 0 (ov_mx y')) with
              | false => rw [hb2] at h; cases h
              | true =>
                rw [hb2] at h
                cases h
                simp only [Bool.and_eq_true] at hb2
                obtain ⟨⟨hb3, hb4⟩, hb5⟩ := hb2
                have hlen := Nat.le_of_ble_eq_true hb.1
                have hmx0 : (ov_as ((st.take (ov_np y)).reverse)).length ≤ ov_mx y - 1 := Nat.le_of_ble_eq_true hb.2
                have hpos : 0 < ov_mx y := Nat.le_of_ble_eq_true hb5
                have hmx : (ov_as (.ref (a + 1) :: (st.take (ov_np y)).reverse)).length ≤ ov_mx y := by
                  rw [ov_as_cons, List.length_append]
                  show 1 + _ ≤ _
                  omega
                have hM := hOk y _ μ rv μ' w2 hmx hC
                obtain ⟨i, hi, hcell⟩ := hH.obj ha
                cases hi
                obtain ⟨q, hq, hqn, cellV, f1, f2, f3, -⟩ := hcell.1 rfl
                have hKn := hKK.1.1 ci _ hq
                have hcls : s.vm.findClass (ov_nm y).cls = some cellV.cls := by
                  rw [f2]
                  have e1 : (ov_nm y).cls = q.1 := by
                    show ov_cname (ov_oc y) = q.1
                    rw [ov_beq hb3]
                    match ci, hq with
                    | 0, hq => cases hq; rfl
                    | 1, hq => cases hq; rfl
                    | 2, hq => cases hq; rfl
                    | 3, hq => cases hq; rfl
                    | 4, hq => cases hq; rfl
                    | 5, hq => cases hq; rfl
                    | 6, hq => cases hq; rfl
                    | 7, hq => cases hq; rfl
                    | 8, hq => cases hq; rfl
                    | k + 9, hq => simp [ov_cl] at hq
                  rw [e1]
                  exact hKn.2.1
                have es : st.map (ov_cv b h0) = (((st.take (ov_np y)).reverse).map (ov_cv b h0)).reverse ++ .ref (h0 + a) :: r.map (ov_cv b h0) := by
                  rw [ov_split (n := ov_np y), hst]
                  rfl
                have hts := X.2.2.2.2.1
                refine ov_after (rest := r) (va_runV hS0 hM ⟨ov_cb X hRf hRl w2 w1, hts _ (w3 rfl).1, hts _ (w3 rfl).2⟩ ⟨ov_blind, ⟨cellV, f1, by rw [f3]; rfl, hcls⟩, hpc _⟩ rfl (by simp; omega) hl.1 es (lv_room (by rw [ov_cats]; exact Nat.le_of_ble_eq_true hb4)) hd hcells) hl hS g1 g2 hn hz kk
            · replace h : (match μ.1[a + 1]? with
                | some (0, c, _) => bif Nat.beq (ov_oc y') (c + 1) && Nat.ble (r'.map fun v => v.category).sum 8 && Nat.blt 0 (ov_mx y') then some (y', .ref (a + 1) :: (st.take (ov_np y')).reverse, r') else none
                | _ => none) = some (y, as, r) := h
              rw [ha] at h
              cases h
          all_goals cases h
    · cases h
  · rename_i idx hd
    unfold ov_lkd at h
    split at h
    · rename_i k y' w hf
      cases hk : Nat.beq k 2 with
      | false => rw [hk] at h; cases h
      | true =>
        rw [hk] at h
        cases ov_beq hk
        obtain ⟨w1, w2, -, -, w3⟩ := ov_link hf
        unfold ov_ca at h
        cases hb : (Nat.ble (ov_np y') st.length && Nat.ble (ov_as ((st.take (ov_np y')).reverse)).length (ov_mx y' - (if 2 = 0 then 0 else 1))) with
        | false => rw [hb] at h; cases h
        | true =>
          rw [hb] at h
          simp only [cond_true] at h
          simp only [Bool.and_eq_true] at hb
          generalize hst : List.drop (ov_np y') st = rr at h
          rcases rr with _ | ⟨v0, r'⟩
          · cases h
          rcases v0 with _ | _ | _ | _ | _ | a | _
          case ref =>
            rcases a with _ | a
            · cases h
            replace h : (bif Nat.ble (r'.map fun v => v.category).sum 8 && Nat.blt 0 (ov_mx y') then some (y', .ref (a + 1) :: (st.take (ov_np y')).reverse, r') else none) = some (y, as, r) := h
            cases hb2 : (Nat.ble (r'.map fun v => v.category).sum 8 && Nat.blt 0 (ov_mx y')) with
            | false => rw [hb2] at h; cases h
            | true =>
              rw [hb2] at h
              cases h
              simp only [Bool.and_eq_true] at hb2
              obtain ⟨hb4, hb5⟩ := hb2
              have hlen := Nat.le_of_ble_eq_true hb.1
              have hmx0 : (ov_as ((st.take (ov_np y)).reverse)).length ≤ ov_mx y - 1 := Nat.le_of_ble_eq_true hb.2
              have hpos : 0 < ov_mx y := Nat.le_of_ble_eq_true hb5
              have hmx : (ov_as (.ref (a + 1) :: (st.take (ov_np y)).reverse)).length ≤ ov_mx y := by
                rw [ov_as_cons, List.length_append]
                show 1 + _ ≤ _
                omega
              have hM := hOk y _ μ rv μ' w2 hmx hC
              have es : st.map (ov_cv b h0) = (((st.take (ov_np y)).reverse).map (ov_cv b h0)).reverse ++ .ref (h0 + a) :: r.map (ov_cv b h0) := by
                rw [ov_split (n := ov_np y), hst]
                rfl
              have hts := X.2.2.2.2.1
              obtain ⟨w4, w5, w6⟩ := w3 rfl
              have hcb := ov_cb (mc := μ'.1.length - μ.1.length) (ms := ov_sz μ'.1 - ov_sz μ.1) X hRf hRl w2 w1
              rw [w6] at hcb
              refine ov_after (rest := r) (va_runI hS0 hM ⟨hcb, w5, hts _ w4⟩ ⟨ov_blind, hpc _⟩ rfl (by simp; omega) hl.1 es (lv_room (by rw [ov_cats]; exact Nat.le_of_ble_eq_true hb4)) hd hcells) hl hS g1 g2 hn hz kk
          all_goals cases h
    · cases h
  · cases h
theorem ov_run_sound {d : Nat} (hOk : ov_Ok d l D b h0) (X : ov_X p s m args meth c D M) (hRf : d + 1 ≤ R.frames) (hRl : 64 * (d + 1) ≤ R.locals) {x' : ov_Cfg} (hc : x'.2.2.2.1.length - n0 ≤ R.cells) (hs : ov_sz x'.2.2.2.1 - z0 ≤ R.slots)
    (kk : ov_W p l e R s m args below meth c Q D b h0 n0 z0 M x') : ∀ (k : Nat) (x : ov_Cfg), ov_N (ov_C d) M k x x' → n0 ≤ x.2.2.2.1.length → z0 ≤ ov_sz x.2.2.2.1 → ov_W p l e R s m args below meth c Q D b h0 n0 z0 M x
  | 0, x, h, _, _ => by cases h; exact kk
  | k + 1, x, h, hn, hz => by
    obtain ⟨z, hI, hN⟩ := h
    have h2 := ov_growN hN
    rcases hI with hst | ⟨y, as, r, rv, μ1, hi, hC, rfl⟩
    · have h1 := ov_grow hst
      exact ov_step_sound X (by omega) (by omega) hst hn hz (by omega) (by omega) (ov_run_sound hOk X hRf hRl hc hs kk k z hN (by omega) (by omega))
    · have h1 := ov_growC d _ _ _ _ _ hC
      dsimp only at h2
      exact ov_inv_sound hOk X hRf hRl hi hC hn hz (by omega) (by omega) (ov_run_sound hOk X hRf hRl hc hs kk k _ hN (by dsimp only; omega) (by dsimp only; omega))
end ov_S
