-- EVERY METHOD MEETS ITS CONTRACT; THE LAW OUT OF A PURE RUN
theorem ov_ent_av {b h0 : Nat} : ∀ (vs : List Value) (k i : Nat) (v : Value), (ov_as vs)[i]? = some (some v) → (k + i, ov_cv b h0 v) ∈ lv_args k (vs.map (ov_cv b h0))
  | [], k, i, v, h => by simp [ov_as] at h
  | w :: vs, k, i, v, h => by
    rw [ov_as_cons] at h
    show _ ∈ (k, ov_cv b h0 w) :: lv_args (if (ov_cv b h0 w).category = 2 then k + 2 else k + 1) (vs.map (ov_cv b h0))
    rw [ov_cat]
    by_cases hc : w.category = 2
    · rw [if_pos hc] at h ⊢
      match i, h with
      | 0, h =>
        simp at h
        subst h
        exact List.mem_cons_self
      | 1, h => simp at h
      | i + 2, h =>
        have h : (ov_as vs)[i]? = some (some v) := by simpa using h
        have := ov_ent_av (b := b) (h0 := h0) vs (k + 2) i v h
        rw [show k + (i + 2) = k + 2 + i by omega]
        exact List.mem_cons_of_mem _ this
    · rw [if_neg hc] at h ⊢
      match i, h with
      | 0, h =>
        simp at h
        subst h
        exact List.mem_cons_self
      | i + 1, h =>
        have h : (ov_as vs)[i]? = some (some v) := by simpa using h
        have := ov_ent_av (b := b) (h0 := h0) vs (k + 1) i v h
        rw [show k + (i + 1) = k + 1 + i by omega]
        exact List.mem_cons_of_mem _ this
theorem ov_as_len {b h0 : Nat} (vs : List Value) : (lg_sl (vs.map (ov_cv b h0))).length = (ov_as vs).length := by
  induction vs with
  | nil => rfl
  | cons w vs ih =>
    rw [ov_as_cons, List.length_append, ← ih]
    show ((if (ov_cv b h0 w).category = 2 then [Slot.val (ov_cv b h0 w), Slot.second] else [Slot.val (ov_cv b h0 w)]) ++ lg_sl (vs.map (ov_cv b h0))).length = _
    rw [List.length_append, ov_cat]
    split <;> rfl
theorem ov_LV_ent {b h0 n : Nat} {as : List Value} {ls : Array Slot} (h : lv_has ls n (lv_args 0 (as.map (ov_cv b h0)))) (hn : (ov_as as).length ≤ n) : ov_LV b h0 ls n (ov_as as ++ List.replicate (n - (ov_as as).length) none) := by
  refine ⟨h.1, h.2.1, by rw [List.length_append, List.length_replicate]; omega, fun i v hi => ?_⟩
  by_cases hl : i < (ov_as as).length
  · rw [List.getElem?_append_left hl] at hi
    have := ov_ent_av (b := b) (h0 := h0) as 0 i v hi
    rw [Nat.zero_add] at this
    exact h.2.2 _ this
  · rw [List.getElem?_append_right (by omega), List.getElem?_replicate] at hi
    split at hi <;> cases hi
set_option maxHeartbeats 2000000 in
theorem ov_ok (l : Launch) (D : ov_G) (b h0 : Nat) : ∀ d, ov_Ok d l D b h0
  | 0 => fun _ _ _ _ _ _ _ h => h.elim
  | d + 1 => by
    intro y as μ rv μ' hy hmx hC
    obtain ⟨k, x, hN, hret, rfl⟩ := hC
    refine Met.ofW (cc := ov_byt y) (maxL := ov_mx y) (ret := ov_rt y) (ov_mfacts hy).1 rfl ?_
    intro p e s m args below meth c s₁ B hml hv
    obtain ⟨rfl, hH, hKK⟩ := hv
    have hts := atoms_spec (ws := ov_ws y) B.pre
    have X : ov_X p s m (as.map (ov_cv b h0)).toArray meth c D y := ⟨B.exec, B.bytes, hml, findClass_of_methodNamed B.named, fun w hw => hts w (List.mem_cons_of_mem _ hw), fun h => (name_of_methodNamed B.named B.method).1.trans h, hKK⟩
    have hl := lv_entry (as.map (ov_cv b h0)) (n := ov_mx y) (by rw [ov_as_len]; exact hmx)
    rw [lg_entry_eq]
    generalize (lg_sl (as.map (ov_cv b h0)) ++ List.replicate (ov_mx y - (lg_sl (as.map (ov_cv b h0))).length) Slot.unset).toArray = ls at hl ⊢
    have hLV := ov_LV_ent hl hmx
    have hgr := ov_growN hN
    have hfin : ov_W p l e (ov_rm (d + 1) (x.2.2.2.1.length - μ.1.length) (ov_sz x.2.2.2.1 - ov_sz μ.1)) s m (as.map (ov_cv b h0)).toArray below meth c (MQ below (ov_Qc D b h0 rv x.2.2.2) (as.map (ov_cv b h0)).toArray s (x.2.2.2.1.length - μ.1.length) (ov_sz x.2.2.2.1 - ov_sz μ.1) (fun q => h0 ≤ q)) D b h0 μ.1.length (ov_sz μ.1) y x := by
      intro ls H locs hl hH hS
      obtain ⟨pc, lv, st, μ'⟩ := x
      have hq : ∀ t : State, t.heap = H → s.WarmedH t.vm → ov_Qc D b h0 rv μ' (as.map (ov_cv b h0)).toArray s (.returned (rv.map (ov_cv b h0))) t := fun t ht hW =>
        ⟨rfl, by rw [ht]; exact hH.moved hW.alike, by rw [ht]; exact hS.1, fun q h1 h2 => by rw [ht]; exact hS.2.1 q h2 (Nat.not_le.mpr h1)⟩
      have hlk := B.notSynchronized
      unfold ov_ret at hret
      split at hret
      · rename_i v hd hrt hst
        cases hret
        dsimp only at hst
        subst hst
        exact W.iret X.1 X.2.1 (B.returns.trans hrt) hq hS.2.2 hd hlk
      · rename_i v hd hrt hst
        split at hret
        · rename_i hv
          cases hret
          dsimp only at hst
          subst hst
          exact W.zret X.1 X.2.1 (B.returns.trans hrt) (by rcases hv with rfl | rfl <;> rfl) hq hS.2.2 hd hlk
        · cases hret
      · rename_i v hd hrt hst
        cases hret
        dsimp only at hst
        subst hst
        exact W.lret X.1 X.2.1 (B.returns.trans hrt) hq hS.2.2 hd hlk
      · rename_i hd hrt hst
        cases hret
        dsimp only at hst
        subst hst
        exact W.vret X.1 X.2.1 (B.returns.trans hrt) hq hS.2.2 hd hlk
      · cases hret
    have hrun := ov_run_sound (ov_ok l D b h0 d) X (R := ov_rm (d + 1) (x.2.2.2.1.length - μ.1.length) (ov_sz x.2.2.2.1 - ov_sz μ.1)) (Nat.le_refl _) (Nat.le_refl _) (Nat.le_refl _) (Nat.le_refl _) hfin k _ hN (Nat.le_refl _) (Nat.le_refl _) ls s.heap [] hLV hH va_S.rf
    dsimp only [ov_ent] at hrun
    rw [Nat.sub_self, Nat.sub_self] at hrun
    exact hrun
def ov_eqm (L : Nat) (xs : Nat → Int32) (μ ν : ov_Mem) : Prop := μ.1.length = ν.1.length ∧ ν.1[0]? = some (9, 0, L) ∧ (∀ j, j < L → ν.2 0 j = .int (xs j)) ∧
  ∀ (i : Nat) (sh : ov_Sh), ν.1[i + 1]? = some sh → μ.1[i + 1]? = some sh ∧ ∀ k, k < sh.2.2 → μ.2 (i + 1) k = ν.2 (i + 1) k
theorem ov_HP.eqm {D : ov_G} {b h0 : Nat} {s : State} {μ ν : ov_Mem} {H : Heap} (h : ov_HP D b h0 s μ H) (e : ov_eqm D.2.1 D.2.2 μ ν) : ov_HP D b h0 s ν H := by
  obtain ⟨h1, h2, ⟨h5, h3⟩, h6⟩ := h
  obtain ⟨e1, e0, e2, e3⟩ := e
  refine ⟨by rw [← e1]; exact h1, h2, ⟨h5, Or.inl ⟨e0, e2⟩⟩, fun i sh hi => ?_⟩
  obtain ⟨hi, hv⟩ := e3 i sh hi
  have hc := h6 i sh hi
  refine ⟨fun z => ?_, fun z => ?_, fun z j hj => ?_⟩
  · obtain ⟨r, g1, g2, g3⟩ := hc.1 z
    exact ⟨r, g1, g2, g3.to (fun k hk => congrArg (ov_cv b h0) (hv k hk))⟩
  · obtain ⟨cA, g1, g2, g3⟩ := hc.2.1 z
    refine ⟨cA, g1, g2, ?_⟩
    rw [g3]
    unfold arrV
    congr 3
    funext j
    dsimp only
    rw [hv j.val j.isLt]
  · obtain ⟨x, hx⟩ := hc.2.2 z j hj
    exact ⟨x, (congrArg (ov_cv b h0) (hv j hj).symm).trans hx⟩
def ov_m1 : ov_Mem := ([(8, 0, 0)], fun _ _ => .null)
/-- what is left: a pure run of the law -/
def ov_Law (L : Nat) (xs : Nat → Int32) : Prop := ∃ (d k1 k2 : Nat) (x1 x2 : ov_Cfg) (μ : ov_Mem), d ≤ 1000 ∧ ov_N (ov_C d) 0 k1 (0, [some (.ref 0), none, none, none], [], ov_m1) x1 ∧ ov_sz x1.2.2.2.1 ≤ ov_sz μ.1 ∧ ov_eqm L xs x1.2.2.2 μ ∧ ov_N (ov_C d) 0 k2 (x1.1, x1.2.1, x1.2.2.1, μ) x2 ∧
  decode code x2.1 = .ok (.ireturn, 1) ∧ x2.2.2.1 = [.int 1] ∧ x2.2.2.2.1.length ≤ 1000 ∧ ov_sz x2.2.2.2.1 ≤ 10000
theorem ov_in_tbl {w : Cond} (h : w ∈ ov_tt) : w ∈ lw_tbl := (List.mem_filter.mp h).1
def R_law : String := "OnlyEntrancesLaw"
def lw_P (b : Addr) (xs : List Int32) (args : Array Value) (s : State) : Prop := args = #[.ref b] ∧ s.IntsAt b xs ∧ xs.length ≤ 256 ∧ (Jvm.Cond.and given_1 narrow_1).before args s = true
def lw_Q (_ : Array Value) (s : State) (o : Outcome) (t : State) : Prop := o = .returned (some (.int 1)) ∧ Framed s o t [] 600000 7302250
def lw_Z (below : List Frame) (a : Array Value) (s : State) : State → Prop := fun t => ∃ o, t.status = .running ∧ Ended t below o ∧ lw_Q a s o t
/-- the law's own end, with 1 on the stack, nothing written that was there before, its room as the claim has it -/
theorem lw_ret {p : Program} {l : Launch} {e : Env} {s : State} {m : MethodId} {below : List Frame} {meth : Method} {c : Code} {b : Nat} (hx : p.tables.exec = Jvm.exec) (hb : c.code = code) (hr : meth.sig.returnType = ret) (hlocks : meth.locks = false) {pc : Nat} {H : Heap} {ls : Array Slot} (hdg : decode code pc = .ok (.ireturn, 1)) : W p l e room_1 s m #[Value.ref b] below meth c H [] 600000 7302250 (lw_Z below #[Value.ref b] s) (F0 m pc ls [.int 1]) := by
  intro T hT X
  obtain ⟨fs, hret, hrun, hended, hW, hframe⟩ := X.leave (v := some (.int 1)) (hlocks := hlocks) (fun h => by rw [hr] at h; cases h)
  have hmeth' : T.vm.method? m = some meth := X.method'
  refine ⟨T.setFrames fs, ?_, .returned (some (.int 1)), hrun, hended, rfl, ⟨_, rfl⟩, hW, hframe⟩
  jvm_step X.here [X.here.top, hx, hb, hdg, hmeth', hr, ret, narrow_b1]
  (try refine ⟨rfl, ?_⟩); (try refine ⟨rfl, ?_⟩)
  first | (intro acts; rw [hret _ acts rfl rfl rfl]) | rw [hret _ _ rfl rfl rfl]
  exact Steps.refl _
/-- what holds at the law's entry: the machine, the code, the tables' words (any of lw_tbl by 'hts w (by decide +kernel)'), the script of L ints xs at the cell b, what the Statement gives of the start (any of its parts by flat_of_before) -/
def lw_At (p : Program) (s : State) (m : MethodId) (meth : Method) (c : Code) (b L : Nat) (xs : Nat → Int32) : Prop :=
  p.tables.exec = Jvm.exec ∧ c.code = code ∧ meth.sig.returnType = ret ∧ c.maxLocals = 4 ∧ s.vm.findClass R_law = some m.cls ∧ (∀ w ∈ lw_tbl, w.before #[Value.ref b] s = true) ∧ va_X b L xs s s.heap ∧ b < s.heap.size ∧ meth.locks = false ∧ (Jvm.Cond.and given_1 narrow_1).before #[Value.ref b] s = true
-- ===== YOUR PART BEGINS =====
set_option maxHeartbeats 2000000 in
theorem whole_start {p : Program} {e : Env} {s : State} {m : MethodId} {below : List Frame} {meth : Method} {c : Code} (l : Launch) (hflags : l.flags = flags0) {b L : Nat} {xs : Nat → Int32} (hL : L ≤ 256) (C0 : lw_At p s m meth c b L xs) (hLaw : ov_Law L xs) : W p l e room_1 s m #[Value.ref b] below meth c s.heap [] 0 0 (lw_Z below #[Value.ref b] s) (entryFrame m ([Value.ref b] : List Value).toArray 4) := by
  obtain ⟨hx, hb, hr, hml, hown, hts, hX, hbl, hlocks, hgv⟩ := id C0
  have hts2 : ∀ w ∈ ov_tt, w.before #[Value.ref b] s = true := fun w hw => hts w (ov_in_tbl hw)
  have hkn : ∀ (k : Nat) (q : vw_C), ov_cl[k]? = some q → ∃ z : ClassId × (Nat → Nat), u_Kn s q.1 q.2.1 q.2.2 z.1 z.2 := by
    intro k q hq
    have hcl := (ov_clOK k q hq).1
    have hins : (Cond.instantiable q.1 q.2.2).before #[Value.ref b] s = true := by
      have hall : ov_cl.all (fun r => ov_nt.any fun e => match ov_cl[e.2.1]? with
        | some r' => decide (r'.1 = r.1) && decide (r'.2.2 = r.2.2) && ov_nOK e
        | none => false) = true := by decide +kernel
      have h1 := List.all_eq_true.mp hall q (List.mem_of_getElem? hq)
      obtain ⟨en, hen, h2⟩ := List.any_eq_true.mp h1
      split at h2
      · rename_i r' hr'
        simp only [Bool.and_eq_true, decide_eq_true_eq] at h2
        obtain ⟨⟨h3, h4⟩, h5⟩ := h2
        unfold ov_nOK at h5
        rw [hr'] at h5
        simp only [Bool.and_eq_true] at h5
        rw [← h3, ← h4]
        exact hts2 _ (ov_ixm h5.1.2)
      · cases h2
    obtain ⟨cC, iS, h⟩ := u_known (ws := ov_tt) hts2 hcl hins
    exact ⟨(cC, iS), h⟩
  obtain ⟨D0, hD⟩ : ∃ D : va_G, ∀ (k : Nat) (q : vw_C), ov_cl[k]? = some q → u_Kn s q.1 q.2.1 q.2.2 (D.1 k) (D.2 k) := by
    have : ∀ k : Nat, ∃ z : ClassId × (Nat → Nat), ∀ q : vw_C, ov_cl[k]? = some q → u_Kn s q.1 q.2.1 q.2.2 z.1 z.2 := by
      intro k
      cases hq : ov_cl[k]? with
      | none => exact ⟨(0, fun _ => 0), fun q h => by cases h⟩
      | some q =>
        obtain ⟨z, hz⟩ := hkn k q hq
        exact ⟨z, fun q' h => by cases h; exact hz⟩
    exact ⟨(fun k => (Classical.choose (this k)).1, fun k => (Classical.choose (this k)).2), fun k q hq => Classical.choose_spec (this k) q hq⟩
  obtain ⟨D, hDD⟩ : ∃ D : ov_G, D = (D0, L, xs) := ⟨_, rfl⟩
  have hKK : ov_KK D s := by subst hDD; exact ⟨⟨hD, fun k q h => by simp at h⟩, va_AO.of (hts _ ov_w_ao)⟩
  have X : ov_X p s m #[Value.ref b] meth c D 0 := ⟨hx, hb, hml, hown, hts2, fun h => absurd h (by decide +kernel), hKK⟩
  have hH : ov_HP D b s.heap.size s ov_m1 s.heap := by
    subst hDD
    refine ⟨rfl, hbl, ⟨hX, Or.inr rfl⟩, fun i sh h => ?_⟩
    simp [ov_m1] at h
  have hl := lv_entry (([.ref 0] : List Value).map (ov_cv b s.heap.size)) (n := 4) (Nat.le_of_ble_eq_true rfl)
  rw [show ([Value.ref b] : List Value) = ([.ref 0] : List Value).map (ov_cv b s.heap.size) from rfl, lg_entry_eq]
  generalize (lg_sl (([.ref 0] : List Value).map (ov_cv b s.heap.size)) ++ List.replicate (4 - (lg_sl (([.ref 0] : List Value).map (ov_cv b s.heap.size))).length) Slot.unset).toArray = ls at hl ⊢
  have hLV : ov_LV b s.heap.size ls 4 [some (.ref 0), none, none, none] := ov_LV_ent (as := [.ref 0]) hl (Nat.le_of_ble_eq_true rfl)
  obtain ⟨d, k1, k2, x1, x2, μ, hd, hN1, hz1, hE, hN2, hdec, hst, hlen, hsz⟩ := hLaw
  have g2 := ov_growN hN2
  have g1 := ov_growN hN1
  have hfin : ov_W p l e room_1 s m #[Value.ref b] below meth c (lw_Z below #[Value.ref b] s) D b s.heap.size 1 0 0 x2 := by
    intro ls H locs hl hH hS
    rw [hst]
    refine va_forget hS.2.2 ?_
    refine W.widen (k := 600000) (n := 7302250) (by omega) (by omega) ?_
    exact lw_ret hx hb hr hlocks hdec
  have e1 : x1.2.2.2.1.length = μ.1.length := hE.1
  have hm1 : ov_m1.1.length = 1 := rfl
  have hm2 : ov_sz ov_m1.1 = 0 := rfl
  have hR1 : d + 1 ≤ room_1.frames := by show d + 1 ≤ 2048; omega
  have hR2 : 64 * (d + 1) ≤ room_1.locals := by show 64 * (d + 1) ≤ 84000; omega
  have hB1 : x2.2.2.2.1.length - 1 ≤ room_1.cells := by show _ ≤ 600000; omega
  have hB2 : ov_sz x2.2.2.2.1 - 0 ≤ room_1.slots := by show _ ≤ 7302250; omega
  dsimp only at g1 g2
  rw [hm1, hm2] at g1
  have hmid := ov_run_sound (ov_ok l D b s.heap.size d) X hR1 hR2 hB1 hB2 hfin k2 _ hN2 (by dsimp only; omega) (Nat.zero_le _)
  have hmid2 : ov_W p l e room_1 s m #[Value.ref b] below meth c (lw_Z below #[Value.ref b] s) D b s.heap.size 1 0 0 x1 := by
    intro ls H locs hl hH hS
    have := hmid ls H locs hl (hH.eqm (by rw [hDD]; exact hE)) hS
    dsimp only at this
    refine W.widen (k := μ.1.length - 1) (n := ov_sz μ.1 - 0) (by omega) (by omega) ?_
    exact this
  have hrun := ov_run_sound (ov_ok l D b s.heap.size d) X hR1 hR2 (by show _ ≤ 600000; omega) (by show _ ≤ 7302250; omega) hmid2 k1 _ hN1 (by dsimp only; omega) (Nat.zero_le _) ls s.heap [] hLV hH va_S.rf
  dsimp only at hrun
  rw [hm1, hm2] at hrun
  exact hrun
