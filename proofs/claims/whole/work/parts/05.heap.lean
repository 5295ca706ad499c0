-- INSTRUCTIONS OVER THE HEAP
section ov_S
variable {p : Program} {l : Launch} {e : Env} {R : Room} {s : State} {m : MethodId} {args : Array Value} {below : List Frame} {meth : Method} {c : Code} {Q : State → Prop}
variable {D : ov_G} {b h0 n0 z0 M : Nat} {pc : Nat} {lv : List (Option Value)} {st : List Value} {μ : ov_Mem} {x' : ov_Cfg}
theorem ov_field {idx ci k i : Nat} {fin : Bool} (hf : ov_find ov_ft (idx * 32 + ov_oc M) = some (ci, k, fin, i)) : ∃ r : vw_C, ov_cl[ci]? = some r ∧ k < r.2.2 ∧ (r.2.1 k).2.2.2 = fin ∧ (r.2.1 k).1 = ov_cname (ci + 1) ∧ Cond.fieldLink (ov_cname (ov_oc M)) idx (r.2.1 k).1 (r.2.1 k).2.1 (r.2.1 k).2.2.1 ∈ ov_tt := by
  have h1 := List.all_eq_true.mp ov_fall _ (ov_find_mem hf)
  unfold ov_fOK at h1
  dsimp only at h1
  rw [(ov_key idx M).1, (ov_key idx M).2] at h1
  split at h1
  · rename_i r hr
    simp only [Bool.and_eq_true, decide_eq_true_eq] at h1
    obtain ⟨⟨⟨h2, h3⟩, h4⟩, h5⟩ := h1
    exact ⟨r, hr, Nat.le_of_ble_eq_true h3, h4, h5, ov_ixm h2⟩
  · cases h1
theorem ov_beq {a c : Nat} (h : Nat.beq a c = true) : a = c := Nat.eq_of_beq_eq_true h
theorem ov_HP.obj {H : Heap} {a ci n : Nat} (hH : ov_HP D b h0 s μ H) (ha : μ.1[a]? = some (0, ci, n)) : ∃ i, a = i + 1 ∧ ov_cell D.1 s (h0 + i) (0, ci, n) (fun k => ov_cv b h0 (μ.2 a k)) H := by
  obtain ⟨h1, h2, ⟨h5, h3⟩, h6⟩ := hH
  cases a with
  | zero =>
    rcases h3 with ⟨h3, -⟩ | h3
    · have e2 : (9 : Nat) = 0 := congrArg Prod.fst (Option.some.inj (h3.symm.trans ha))
      cases e2
    · have e2 : (8 : Nat) = 0 := congrArg Prod.fst (Option.some.inj (h3.symm.trans ha))
      cases e2
  | succ i => exact ⟨i, rfl, h6 i _ ha⟩
set_option maxHeartbeats 1000000 in
theorem ov_s_gf (X : ov_X p s m args meth c D M) {idx : Nat} (hd : decode (ov_byt M) pc = .ok (.getfield idx, 3)) (h : ov_gf (ov_oc M) idx pc lv st μ = some x') (kk : ov_W p l e R s m args below meth c Q D b h0 n0 z0 M x') : ov_W p l e R s m args below meth c Q D b h0 n0 z0 M (pc, lv, st, μ) := by
  unfold ov_gf at h
  split at h
  · rename_i a r ci k fin i hf
    split at h
    · rename_i c1 n1 ha
      cases hb : Nat.beq c1 ci with
      | false => rw [hb] at h; cases h
      | true =>
        rw [hb] at h
        cases h
        have hcc := ov_beq hb
        subst hcc
        intro ls H locs hl hH hS
        obtain ⟨q, hr, hk, hfin, hdecl, hw⟩ := ov_field hf
        obtain ⟨j, rfl, hc⟩ := hH.obj ha
        have hP := ov_P1 hc hr
        have hT := ov_clOK c1 q hr
        refine va_get (D := D.1) (cl := ov_cl) (ci := c1) (C := q.1) (T := q.2.1) (N := q.2.2) (v := ov_cv b h0 (μ.2 (j + 1) k)) X.1 X.2.1 X.2.2.2.2.1 hT.1 X.2.2.2.1 X.2.2.2.2.2.2.1 hP 0 rfl hr k hk (X.2.2.2.2.1 _ hw) (fun _ z => z) ?_ hd (kk ls H locs hl hH hS)
        rw [List.getElem?_map, List.getElem?_range hk]
        rfl
    · cases h
  · cases h
theorem ov_fit_ok {ty : FieldType} {v : Value} (h : ov_fit ty v = true) : narrow ty (ov_cv b h0 v) = ov_cv b h0 v ∧ fits ty (ov_cv b h0 v) = true := by
  unfold ov_fit at h
  split at h <;> first | exact ⟨rfl, rfl⟩ | cases h
theorem ov_t1 {D : va_G} {s : State} {a ci n : Nat} {f g : Nat → Value} {H : Heap} {r : vw_C} (hr : ov_cl[ci]? = some r) (hn : r.2.2 = n) (h : t_OB a (D.1 ci) n (D.2 ci) H g) (e : ∀ k, k < n → g k = f k) : ov_cell D s a (0, ci, n) f H :=
  ⟨fun _ => ⟨r, hr, hn, t_OB.to h e⟩, fun z => absurd rfl z, fun z => by cases z⟩
theorem ov_updcv {f : Nat → Value} {k : Nat} {v : Value} (j : Nat) : updV (fun k => ov_cv b h0 (f k)) k (ov_cv b h0 v) j = ov_cv b h0 (updV f k v j) := by
  unfold updV
  split <;> rfl
set_option maxHeartbeats 1000000 in
theorem ov_s_pf (X : ov_X p s m args meth c D M) {idx : Nat} (hd : decode (ov_byt M) pc = .ok (.putfield idx, 3)) (h : ov_pf (ov_oc M) idx (ov_ini M) pc lv st μ = some x') (kk : ov_W p l e R s m args below meth c Q D b h0 n0 z0 M x') : ov_W p l e R s m args below meth c Q D b h0 n0 z0 M (pc, lv, st, μ) := by
  unfold ov_pf at h
  split at h
  · rename_i v a r ci k fin i hf
    split at h
    · rename_i c1 n1 ha
      cases hb : (Nat.beq c1 ci && ov_fit (ov_ty ci k) v && (!fin || (ov_ini M && Nat.beq (ov_oc M) (ci + 1)))) with
      | false => rw [hb] at h; cases h
      | true =>
        rw [hb] at h
        cases h
        simp only [Bool.and_eq_true, Bool.or_eq_true, Bool.not_eq_true'] at hb
        obtain ⟨⟨hb1, hb2⟩, hb3⟩ := hb
        have hcc := ov_beq hb1
        subst hcc
        intro ls H locs hl hH hS
        obtain ⟨q, hr, hk, hfin, hdecl, hw⟩ := ov_field hf
        obtain ⟨j, rfl, hc⟩ := hH.obj ha
        obtain ⟨hT1, hT2, hT3⟩ := ov_clOK c1 q hr
        have hKK := X.2.2.2.2.2.2.1
        have hts := X.2.2.2.2.1
        have hap := va_apart (own := ov_cname (ov_oc M)) hts hT1 (ov_ty c1) hT2 hT3 hKK hr
        obtain ⟨q', hr', hn, hOB⟩ := hc.1 rfl
        cases hr.symm.trans hr'
        have hn : q.2.2 = n1 := hn
        obtain ⟨cell, q1, q2, q3, q4⟩ := hOB
        obtain ⟨hSl, hfc, kC, hkC, hkind⟩ := hKK.1 c1 _ hr
        obtain ⟨cf, kf, fi, f, hi, hsl⟩ := hSl k hk
        have hst := (u_facts hfc hkC (u_lays hts hT1 hk) hi).1
        obtain ⟨hnar, hfit⟩ := ov_fit_ok (b := b) (h0 := h0) hb2
        have q4 : ∀ k, k < q.2.2 → cell.slots[D.1.2 c1 k]? = some (ov_cv b h0 (μ.2 (j + 1) k)) := by rw [hn]; exact q4
        have hslot : f.slot < cell.slots.size := by rw [hsl]; exact k2_hasslot (q4 k hk)
        have fin2 : ∀ (H1 : Heap), H1[h0 + j]? = some (cell.setSlot f.slot (ov_cv b h0 v)) → H1.size = H.size → (∀ x, x ≠ h0 + j → H1[x]? = H[x]?) →
            W p l e R s m args below meth c H1 (locs ++ [⟨h0 + j, f.slot⟩]) ((ov_rp μ (j + 1) (updV (μ.2 (j + 1)) k v)).1.length - n0) (ov_sz (ov_rp μ (j + 1) (updV (μ.2 (j + 1)) k v)).1 - z0) Q (F0 m (pc + 3) ls (r.map (ov_cv b h0))) := by
          intro H1 e1 e2 e3
          rw [hsl] at e1 ⊢
          refine kk ls H1 _ hl ?_ (hS.put e2 e3 (Nat.le_add_right _ _))
          refine hH.rp ha e2 e3 ?_
          have hset := t_set q4 hap hk (ov_cv b h0 v)
          exact ov_t1 hr hn (g := updV (fun k => ov_cv b h0 (μ.2 (j + 1) k)) k (ov_cv b h0 v)) ⟨_, e1, q2, q3, by rw [← hn]; exact hset⟩ (fun y _ => ov_updcv y)
        cases hfn : fin with
        | false =>
          have hlay := hts _ (hT1 _ (u_in_lay hk))
          unfold u_lay at hlay
          rw [if_neg (by rw [hfin, hfn]; decide)] at hlay
          have h6 := u_store hfc hkC hkind hlay hi (hT2 k hk) hnar hfit
          exact W.putK X.1 X.2.1 (f := f) ⟨X.2.2.2.1, hts _ hw, ⟨_, _, _, hi⟩, hst⟩ (by rw [q2]; exact h6) q1 q3 hslot rfl rfl hd fin2
        | true =>
          have hini : ov_ini M = true ∧ Nat.beq (ov_oc M) (c1 + 1) = true := by
            rcases hb3 with z | z
            · rw [hfn] at z; cases z
            · exact z
          have hown : ov_oc M = c1 + 1 := ov_beq hini.2
          have hnm : (ov_nm M).name = "<init>" := of_decide_eq_true hini.1
          have hlay := hts _ (hT1 _ (u_in_lay hk))
          unfold u_lay at hlay
          rw [if_pos (by rw [hfin, hfn])] at hlay
          have hcf : m.cls = cf := by
            obtain ⟨_, _, c', _, _, _, -, -, hf', -, -, -, hown2, -⟩ := Cond.laysFinal_spec hlay
            have e1 : c' = cf := by have := hi.symm.trans hf'; simp at this; exact this.1.symm
            rw [hdecl, ← hown] at hown2
            rw [← e1]; exact Option.some.inj (X.2.2.2.1.symm.trans hown2)
          have h6 := u_fits hfc hkC hkind (Or.inr hlay) hi (hT2 k hk) hnar hfit
          exact W.putFinK X.1 X.2.1 X.2.2.2.1 (hts _ hw) hi hst hcf (X.2.2.2.2.2.1 hnm) (by rw [q2]; exact h6) q1 q3 hslot rfl rfl hd fin2
    · cases h
  · cases h
theorem ov_HP.arr {H : Heap} {a t n : Nat} {y : Nat} (hH : ov_HP D b h0 s μ H) (ht : t ≠ 0) (ht9 : t < 8) (ha : μ.1[a]? = some (t, y, n)) : ∃ i cA, a = i + 1 ∧ ArrOfT s cA (ov_aty t) ∧ va_RA s cA (ov_aty t) ∧ H[h0 + i]? = some (arrV cA n (fun k => ov_cv b h0 (μ.2 a k))) ∧ (t = 1 → ∀ j, j < n → ∃ x, ov_cv b h0 (μ.2 a j) = .int x) := by
  obtain ⟨h1, h2, ⟨h5, h3⟩, h6⟩ := hH
  cases a with
  | zero =>
    rcases h3 with ⟨h3, -⟩ | h3
    · have e2 : (9 : Nat) = t := congrArg Prod.fst (Option.some.inj (h3.symm.trans ha))
      omega
    · have e2 : (8 : Nat) = t := congrArg Prod.fst (Option.some.inj (h3.symm.trans ha))
      omega
  | succ i =>
    have hc := h6 i _ ha
    obtain ⟨cA, g1, g2, g3⟩ := hc.2.1 ht
    exact ⟨i, cA, rfl, g1, g2, g3, hc.2.2⟩
theorem ov_ar {D : va_G} {s : State} {a t y n : Nat} {f : Nat → Value} {H : Heap} {cA : ClassId} (ht : t ≠ 0) (h1 : ArrOfT s cA (ov_aty t)) (h2 : va_RA s cA (ov_aty t)) (h3 : H[a]? = some (arrV cA n f)) (h4 : t = 1 → ∀ j, j < n → ∃ x, f j = .int x) : ov_cell D s a (t, y, n) f H :=
  ⟨fun z => absurd z ht, fun _ => ⟨cA, h1, h2, h3⟩, h4⟩
theorem ov_s_iaload (X : ov_X p s m args meth c D M) (hd : decode (ov_byt M) pc = .ok (.iaload, 1)) (h : ov_rdI pc lv st μ = some x') (kk : ov_W p l e R s m args below meth c Q D b h0 n0 z0 M x') : ov_W p l e R s m args below meth c Q D b h0 n0 z0 M (pc, lv, st, μ) := by
  unfold ov_rdI at h
  split at h
  · rename_i j r
    unfold ov_rd at h
    dsimp only at h
    split at h
    · rename_i u y n ha
      split at h
      · rename_i hu
        subst hu
        split at h
        · cases h
        · rename_i hin
          cases h
          intro ls H locs hl hH hS
          have hH' := hH
          obtain ⟨h1, h2, ⟨h5, h3⟩, h6⟩ := hH
          rcases h3 with ⟨h3, h4⟩ | h3
          case inr =>
            have e2 : (8 : Nat) = 9 := congrArg Prod.fst (Option.some.inj (h3.symm.trans ha))
            cases e2
          have e : D.2.1 = n := congrArg (fun z => z.2.2) (Option.some.inj (h3.symm.trans ha))
          subst e
          obtain ⟨scr, g1, g2, g3, g4, g5⟩ := h5
          have hlt : j.toNatClampNeg < D.2.1 := Nat.not_le.mp fun q => hin (Or.inr q)
          refine W.iald (v := .int (D.2.2 j.toNatClampNeg)) X.1 X.2.1 g1 g2 g3 (by rw [g4]; exact hin) (g5 _ hlt) rfl rfl hd ?_
          have k2 := kk ls H locs hl hH' hS
          rw [h4 _ hlt] at k2
          exact k2
      · cases h
    · cases h
  · unfold ov_rd at h
    split at h
    · rename_i j a r _
      split at h
      · rename_i u y n ha
        split at h
        · rename_i hu
          subst hu
          split at h
          · cases h
          · rename_i hin
            cases h
            intro ls H locs hl hH hS
            obtain ⟨i, cA, rfl, g1, g2, g3, g4⟩ := hH.arr (by decide) (by decide) ha
            have hlt : j.toNatClampNeg < n := Nat.not_le.mp fun q => hin (Or.inr q)
            exact W.iald (v := ov_cv b h0 (μ.2 (i + 1) j.toNatClampNeg)) X.1 X.2.1 g3 (g1 n _) (fun q => by cases q) (by rw [arrV_size]; exact hin) (by rw [arrV_read _ _ hlt]) rfl rfl hd (kk ls H locs hl hH hS)
        · cases h
      · cases h
    · cases h
theorem ov_s_baload (X : ov_X p s m args meth c D M) (hd : decode (ov_byt M) pc = .ok (.baload, 1)) (h : ov_rd 2 pc lv st μ = some x') (kk : ov_W p l e R s m args below meth c Q D b h0 n0 z0 M x') : ov_W p l e R s m args below meth c Q D b h0 n0 z0 M (pc, lv, st, μ) := by
  unfold ov_rd at h
  split at h
  · rename_i j a r
    split at h
    · rename_i u y n ha
      split at h
      · rename_i hu
        subst hu
        split at h
        · cases h
        · rename_i hin
          cases h
          intro ls H locs hl hH hS
          obtain ⟨i, cA, rfl, g1, g2, g3, g4⟩ := hH.arr (by decide) (by decide) ha
          have hlt : j.toNatClampNeg < n := Nat.not_le.mp fun q => hin (Or.inr q)
          exact W.zald (v := ov_cv b h0 (μ.2 (i + 1) j.toNatClampNeg)) X.1 X.2.1 g3 (g1 n _) (fun q => by cases q) (by rw [arrV_size]; exact hin) (by rw [arrV_read _ _ hlt]) rfl rfl hd (kk ls H locs hl hH hS)
      · cases h
    · cases h
  · cases h
theorem ov_s_aaload (X : ov_X p s m args meth c D M) (hd : decode (ov_byt M) pc = .ok (.aaload, 1)) (h : ov_rd 3 pc lv st μ = some x') (kk : ov_W p l e R s m args below meth c Q D b h0 n0 z0 M x') : ov_W p l e R s m args below meth c Q D b h0 n0 z0 M (pc, lv, st, μ) := by
  unfold ov_rd at h
  split at h
  · rename_i j a r
    split at h
    · rename_i u y n ha
      split at h
      · rename_i hu
        subst hu
        split at h
        · cases h
        · rename_i hin
          cases h
          intro ls H locs hl hH hS
          obtain ⟨i, cA, rfl, g1, g2, g3, g4⟩ := hH.arr (by decide) (by decide) ha
          have hlt : j.toNatClampNeg < n := Nat.not_le.mp fun q => hin (Or.inr q)
          exact W.aald (v := ov_cv b h0 (μ.2 (i + 1) j.toNatClampNeg)) (ty := .object "OnlyEntrances$Stage") X.1 X.2.1 g3 (g1 n _) rfl (fun q => by cases q) (by rw [arrV_size]; exact hin) (by rw [arrV_read _ _ hlt]) rfl rfl hd (kk ls H locs hl hH hS)
      · cases h
    · cases h
  · cases h
theorem ov_cvI {v : Value} {x : Int32} (h : ov_cv b h0 v = .int x) : v = .int x := by
  cases v <;> first | exact h | cases h
theorem ov_s_iastore (X : ov_X p s m args meth c D M) (hd : decode (ov_byt M) pc = .ok (.iastore, 1)) (h : ov_wr 1 ov_vI pc lv st μ = some x') (kk : ov_W p l e R s m args below meth c Q D b h0 n0 z0 M x') : ov_W p l e R s m args below meth c Q D b h0 n0 z0 M (pc, lv, st, μ) := by
  unfold ov_wr at h
  split at h
  · rename_i v j a r
    split at h
    · rename_i u y n w ha hw
      split at h
      · rename_i hu
        subst hu
        split at h
        · cases h
        · rename_i hin
          cases h
          unfold ov_vI at hw
          split at hw
          · rename_i x
            cases hw
            intro ls H locs hl hH hS
            obtain ⟨i, cA, rfl, g1, g2, g3, g4⟩ := hH.arr (by decide) (by decide) ha
            refine W.iast X.1 X.2.1 g3 (g1 n _) (fun q => by cases q) (by rw [arrV_size]; exact hin) rfl rfl hd fun H1 e1 e2 e3 => ?_
            refine kk ls H1 _ hl (hH.rp ha e2 e3 ?_) (hS.put e2 e3 (Nat.le_add_right _ _))
            refine ov_ar (by decide) g1 g2 ?_ (fun _ q hq => ?_)
            · rw [e1, arrV_store]
              congr 2
              funext q
              exact ov_updcv (v := .int x) q
            · unfold updV
              try dsimp only
              split
              · exact ⟨x, rfl⟩
              · exact g4 rfl q hq
          · cases hw
      · cases h
    · cases h
  · cases h
theorem ov_s_bastore (X : ov_X p s m args meth c D M) (hd : decode (ov_byt M) pc = .ok (.bastore, 1)) (h : ov_wr 2 ov_vZ pc lv st μ = some x') (kk : ov_W p l e R s m args below meth c Q D b h0 n0 z0 M x') : ov_W p l e R s m args below meth c Q D b h0 n0 z0 M (pc, lv, st, μ) := by
  unfold ov_wr at h
  split at h
  · rename_i v j a r
    split at h
    · rename_i u y n w ha hw
      split at h
      · rename_i hu
        subst hu
        split at h
        · cases h
        · rename_i hin
          cases h
          unfold ov_vZ at hw
          split at hw
          · rename_i x
            cases hw
            intro ls H locs hl hH hS
            obtain ⟨i, cA, rfl, g1, g2, g3, g4⟩ := hH.arr (by decide) (by decide) ha
            refine W.zast X.1 X.2.1 g3 (g1 n _) (fun q => by cases q) (by rw [arrV_size]; exact hin) rfl rfl hd fun H1 e1 e2 e3 => ?_
            refine kk ls H1 _ hl (hH.rp ha e2 e3 ?_) (hS.put e2 e3 (Nat.le_add_right _ _))
            refine ov_ar (by decide) g1 g2 ?_ (fun z => by cases z)
            rw [e1, arrV_store]
            congr 2
            funext q
            exact ov_updcv (v := narrow .boolean (.int x)) q
          · cases hw
      · cases h
    · cases h
  · cases h
set_option maxHeartbeats 1000000 in
theorem ov_s_aastore (X : ov_X p s m args meth c D M) (hd : decode (ov_byt M) pc = .ok (.aastore, 1)) (h : ov_wr 3 (ov_vS μ) pc lv st μ = some x') (kk : ov_W p l e R s m args below meth c Q D b h0 n0 z0 M x') : ov_W p l e R s m args below meth c Q D b h0 n0 z0 M (pc, lv, st, μ) := by
  unfold ov_wr at h
  split at h
  · rename_i v j a r
    split at h
    · rename_i u y n w ha hw
      split at h
      · rename_i hu
        subst hu
        split at h
        · cases h
        · rename_i hin
          cases h
          unfold ov_vS at hw
          split at hw
          · rename_i va
            split at hw
            · rename_i n2 hva
              cases hw
              intro ls H locs hl hH hS
              obtain ⟨i, cA, rfl, g1, g2, g3, g4⟩ := hH.arr (by decide) (by decide) ha
              obtain ⟨vi, hvi, hvc⟩ := hH.obj hva
              cases hvi
              obtain ⟨q, hq, hn, cellV, f1, f2, f3, -⟩ := hvc.1 rfl
              have hKn := X.2.2.2.2.2.2.1.1 3 _ hq
              have hlt : j.toNatClampNeg < n := Nat.not_le.mp fun q => hin (Or.inr q)
              have hq1 : q.1 = "OnlyEntrances$Stage" := by
                have : ov_cl[3]? = some q := hq
                cases this
                rfl
              have g2c := g2
              obtain ⟨kA, comp, k1, k2, k3, -⟩ := g2
              obtain ⟨hfc, kC, hkC, hkind⟩ := hKn.2
              rw [hq1] at hfc
              have hcomp : comp = D.1.1 3 := Option.some.inj (k3.symm.trans hfc)
              subst hcomp
              have f2 : cellV.cls = D.1.1 3 := f2
              refine W.aast X.1 X.2.1 g3 (fun q h => by cases h) (fun h => by cases h) k1 k2 rfl hkC ⟨fun q => hin (Or.inl q), by show _ < (arrV _ _ _).slots.size; rw [arrV_size]; exact hlt⟩ f1 (fun q h => by rw [f3] at h; cases h) (by rw [f2]; exact hkC) (by rw [f2]; exact va_assign ⟨hfc, kC, hkC, hkind⟩) rfl rfl hd fun H1 e1 e2 e3 => ?_
              refine kk ls H1 _ hl (hH.rp ha e2 e3 ?_) (hS.put e2 e3 (Nat.le_add_right _ _))
              refine ov_ar (by decide) g1 g2c ?_ (fun z => by cases z)
              rw [e1, arrV_store]
              congr 2
              funext q
              exact ov_updcv (v := .ref (va + 1)) q
            · cases hw
          · cases hw
      · cases h
    · cases h
  · cases h
theorem ov_s_alen (X : ov_X p s m args meth c D M) (hd : decode (ov_byt M) pc = .ok (.arraylength, 1)) (h : ov_al pc lv st μ = some x') (kk : ov_W p l e R s m args below meth c Q D b h0 n0 z0 M x') : ov_W p l e R s m args below meth c Q D b h0 n0 z0 M (pc, lv, st, μ) := by
  unfold ov_al at h
  split at h
  · rename_i r
    split at h
    · rename_i y n ha
      cases h
      intro ls H locs hl hH hS
      have hH' := hH
      obtain ⟨h1, h2, ⟨h5, h3⟩, h6⟩ := hH
      rcases h3 with ⟨h3, h4⟩ | h3
      case inr =>
        have e2 : (8 : Nat) = 9 := congrArg Prod.fst (Option.some.inj (h3.symm.trans ha))
        cases e2
      have e : D.2.1 = n := congrArg (fun z => z.2.2) (Option.some.inj (h3.symm.trans ha))
      subst e
      obtain ⟨scr, g1, g2, g3, g4, g5⟩ := h5
      exact W.alen X.1 X.2.1 g1 g2 (by rw [g4]) rfl rfl hd (kk ls H locs hl hH' hS)
    · cases h
  · cases h
theorem ov_s_oi (X : ov_X p s m args meth c D M) {idx : Nat} (hRf : 1 ≤ R.frames) (hRl : 64 ≤ R.locals) (hd : decode (ov_byt M) pc = .ok (.invokespecial idx, 3)) (h : ov_oi (ov_oc M) idx pc lv st μ = some x') (kk : ov_W p l e R s m args below meth c Q D b h0 n0 z0 M x') : ov_W p l e R s m args below meth c Q D b h0 n0 z0 M (pc, lv, st, μ) := by
  unfold ov_oi at h
  split at h
  · rename_i a r v hf
    split at h
    · rename_i hr
      cases h
      intro ls H locs hl hH hS
      have h1 := ov_ixm (List.all_eq_true.mp ov_iall _ (ov_find_mem hf))
      dsimp only at h1
      rw [(ov_key idx M).1, (ov_key idx M).2] at h1
      have hts := X.2.2.2.2.1
      exact W.objInit X.1 X.2.1 X.2.2.2.1 (hts _ h1) (hts _ ov_w_oi) (hts _ ov_w_oc) rfl (by rw [X.2.2.1]; exact hl.1) rfl hd hRf (by
        show 2 * 0 + ((r.map (ov_cv b h0)).map fun v => v.category).sum + 12 ≤ R.locals
        rw [ov_cats]
        omega) (kk ls H locs hl hH hS)
    · cases h
  · cases h
theorem ov_sz_app (a : List ov_Sh) (x : ov_Sh) : ov_sz (a ++ [x]) = ov_sz a + x.2.2 := by simp [ov_sz]
set_option maxHeartbeats 1000000 in
theorem ov_s_new (X : ov_X p s m args meth c D M) {idx : Nat} (hd : decode (ov_byt M) pc = .ok (.new idx, 3)) (h : ov_ne (ov_oc M) idx pc lv st μ = some x') (hn : n0 ≤ μ.1.length) (hz : z0 ≤ ov_sz μ.1) (hc : x'.2.2.2.1.length - n0 ≤ R.cells) (hs : ov_sz x'.2.2.2.1 - z0 ≤ R.slots) (kk : ov_W p l e R s m args below meth c Q D b h0 n0 z0 M x') : ov_W p l e R s m args below meth c Q D b h0 n0 z0 M (pc, lv, st, μ) := by
  unfold ov_ne at h
  split at h
  · rename_i ci i hf
    split at h
    · rename_i q hq
      cases h
      intro ls H locs hl hH hS
      have h1 := List.all_eq_true.mp ov_nall _ (ov_find_mem hf)
      unfold ov_nOK at h1
      dsimp only at h1
      rw [(ov_key idx M).1, (ov_key idx M).2, hq] at h1
      simp only [Bool.and_eq_true] at h1
      obtain ⟨⟨w1, w2⟩, w3⟩ := h1
      have hts := X.2.2.2.2.1
      obtain ⟨hT1, hT2, hT3⟩ := ov_clOK ci q hq
      have hKn := X.2.2.2.2.2.2.1.1 ci _ hq
      have el : (ov_nw μ (0, ci, q.2.2) (fun k => defaultValue (ov_ty ci k))).1.length = μ.1.length + 1 := by
        show (μ.1 ++ [_]).length = _
        simp
      have ez : ov_sz (ov_nw μ (0, ci, q.2.2) (fun k => defaultValue (ov_ty ci k))).1 = ov_sz μ.1 + q.2.2 := ov_sz_app _ _
      have hc : (ov_nw μ (0, ci, q.2.2) (fun k => defaultValue (ov_ty ci k))).1.length - n0 ≤ R.cells := hc
      have hs : ov_sz (ov_nw μ (0, ci, q.2.2) (fun k => defaultValue (ov_ty ci k))).1 - z0 ≤ R.slots := hs
      rw [el] at hc
      rw [ez] at hs
      have eb1 : μ.1.length + 1 - n0 = μ.1.length - n0 + 1 := by omega
      have eb2 : ov_sz μ.1 + q.2.2 - z0 = ov_sz μ.1 - z0 + q.2.2 := by omega
      refine W.newcK X.1 X.2.1 X.2.2.2.1 (hts _ (ov_ixm w1)) (hts _ (ov_ixm w2)) (hts _ (ov_ixm w3)) rfl hd (by rw [← eb1]; exact hc) (by rw [← eb2]; exact hs) hKn.2.1 rfl fun H1 kC hkC e1 z1 o1 => ?_
      have hdv : ∀ ty : FieldType, ov_cv b h0 (defaultValue ty) = defaultValue ty := by intro ty; cases ty <;> rfl
      have hnw := hH.nw (sh := (0, ci, q.2.2)) (g := fun k => defaultValue (ov_ty ci k)) z1 o1 (ov_t1 hq rfl (u_born (ov_ty ci) hts hT1 hKn hkC e1 hT2) (fun k _ => (hdv _).symm))
      have k2 := kk ls H1 locs hl hnw.1 ⟨Nat.le_trans hS.1 (by omega), fun x g1 g2 => (o1 x (Nat.lt_of_lt_of_le g1 hS.1)).trans (hS.2.1 x g1 g2), hS.2.2⟩
      dsimp only at k2
      rw [el, ez, eb1, eb2] at k2
      have e3 : (List.map (ov_cv b h0) (.ref μ.1.length :: st)) = .ref H.size :: st.map (ov_cv b h0) := by
        show Value.ref (ov_ad b h0 μ.1.length) :: _ = _
        rw [hnw.2]
      rw [e3] at k2
      exact k2
    · cases h
  · cases h
theorem ov_arr0 {cA : ClassId} {t y N : Nat} {H H1 : Heap} {v : Value} (ht : t ≠ 0) (hv : ov_cv b h0 v = v) (h4 : t = 1 → ∃ x, v = .int x) (hH : ov_HP D b h0 s μ H) (e1 : H1[H.size]? = some (arrV cA N (fun _ => v))) (z1 : H1.size = H.size + 1) (o1 : ∀ q : Nat, q < H.size → H1[q]? = H[q]?) (g1 : ArrOfT s cA (ov_aty t)) (g2 : va_RA s cA (ov_aty t)) :
    ov_HP D b h0 s (ov_nw μ (t, y, N) (fun _ => v)) H1 ∧ ov_ad b h0 μ.1.length = H.size :=
  hH.nw z1 o1 (ov_ar ht g1 g2 (by rw [e1]; congr 2; funext _; exact hv.symm) (fun z q _ => by
    obtain ⟨x, hx⟩ := h4 z
    exact ⟨x, hv.trans hx⟩))
end ov_S
