-- NEW ROWS, COPIES, MATH; THEN CALLS
section ov_S
variable {p : Program} {l : Launch} {e : Env} {R : Room} {s : State} {m : MethodId} {args : Array Value} {below : List Frame} {meth : Method} {c : Code} {Q : State → Prop}
variable {D : ov_G} {b h0 n0 z0 M : Nat} {pc : Nat} {lv : List (Option Value)} {st : List Value} {μ : ov_Mem} {x' : ov_Cfg}
theorem ov_s_newK (X : ov_X p s m args meth c D M) {t N : Nat} {v : Value} {r : List Value} {ls : Array Slot} {H H1 : Heap} {locs : List Loc} {k : Nat} (ht : t ≠ 0) (hv : ov_cv b h0 v = v) (h4 : t = 1 → ∃ x, v = .int x) {cA : ClassId}
    (hl : ov_LV b h0 ls (ov_mx M) lv) (hH : ov_HP D b h0 s μ H) (hS : va_S (fun q => h0 ≤ q) s.heap H locs) (e1 : H1[H.size]? = some (arrV cA N (fun _ => v))) (z1 : H1.size = H.size + 1) (o1 : ∀ q : Nat, q < H.size → H1[q]? = H[q]?) (g1 : ArrOfT s cA (ov_aty t)) (g2 : va_RA s cA (ov_aty t))
    (hn : n0 ≤ μ.1.length) (hz : z0 ≤ ov_sz μ.1)
    (kk : ov_W p l e R s m args below meth c Q D b h0 n0 z0 M (pc + k, lv, .ref μ.1.length :: r, ov_nw μ (t, 0, N) (fun _ => v))) : W p l e R s m args below meth c H1 locs (μ.1.length - n0 + 1) (ov_sz μ.1 - z0 + N) Q (F0 m (pc + k) ls (.ref H.size :: r.map (ov_cv b h0))) := by
  have hnw := ov_arr0 (y := 0) (N := N) ht hv h4 hH e1 z1 o1 g1 g2
  have el : (ov_nw μ (t, 0, N) (fun _ => v)).1.length = μ.1.length + 1 := by
    show (μ.1 ++ [_]).length = _
    simp
  have ez : ov_sz (ov_nw μ (t, 0, N) (fun _ => v)).1 = ov_sz μ.1 + N := ov_sz_app _ _
  have eb1 : μ.1.length + 1 - n0 = μ.1.length - n0 + 1 := by omega
  have eb2 : ov_sz μ.1 + N - z0 = ov_sz μ.1 - z0 + N := by omega
  have k2 := kk ls H1 locs hl hnw.1 ⟨Nat.le_trans hS.1 (by omega), fun x g1 g2 => (o1 x (Nat.lt_of_lt_of_le g1 hS.1)).trans (hS.2.1 x g1 g2), hS.2.2⟩
  dsimp only at k2
  rw [el, ez, eb1, eb2] at k2
  have e3 : (List.map (ov_cv b h0) (.ref μ.1.length :: r)) = .ref H.size :: r.map (ov_cv b h0) := by
    show Value.ref (ov_ad b h0 μ.1.length) :: _ = _
    rw [hnw.2]
  rw [e3] at k2
  exact k2
theorem ov_nwlen {t N : Nat} {g : Nat → Value} {B n0 : Nat} (h : (ov_nw μ (t, 0, N) g).1.length - n0 ≤ B) (hn : n0 ≤ μ.1.length) : μ.1.length - n0 + 1 ≤ B := by
  have el : (ov_nw μ (t, 0, N) g).1.length = μ.1.length + 1 := by
    show (μ.1 ++ [_]).length = _
    simp
  omega
theorem ov_nwsz {t N : Nat} {g : Nat → Value} {B z0 : Nat} (h : ov_sz (ov_nw μ (t, 0, N) g).1 - z0 ≤ B) (hz : z0 ≤ ov_sz μ.1) : ov_sz μ.1 - z0 + N ≤ B := by
  have ez : ov_sz (ov_nw μ (t, 0, N) g).1 = ov_sz μ.1 + N := ov_sz_app _ _
  omega
set_option maxHeartbeats 1000000 in
theorem ov_s_newarray (X : ov_X p s m args meth c D M) {ty : ArrayType} (hd : decode (ov_byt M) pc = .ok (.newarray ty, 2)) (h : ov_na ty pc lv st μ = some x') (hn : n0 ≤ μ.1.length) (hz : z0 ≤ ov_sz μ.1) (hc : x'.2.2.2.1.length - n0 ≤ R.cells) (hs : ov_sz x'.2.2.2.1 - z0 ≤ R.slots) (kk : ov_W p l e R s m args below meth c Q D b h0 n0 z0 M x') : ov_W p l e R s m args below meth c Q D b h0 n0 z0 M (pc, lv, st, μ) := by
  unfold ov_na at h
  split at h
  · rename_i n r
    split at h
    · cases h
    · rename_i hneg
      split at h
      · rename_i hle
        cases h
        intro ls H locs hl hH hS
        refine va_newaK (atype := .int) X.1 X.2.1 (X.2.2.2.2.1 _ ov_w_ai) rfl hd rfl hneg rfl (show n.toNatClampNeg * 4 ≤ _ by omega) (ov_nwlen hc hn) (ov_nwsz hs hz) rfl fun H1 cA e1 z1 o1 hAr hNm => ?_
        exact ov_s_newK X (t := 1) (by decide) rfl (fun _ => ⟨0, rfl⟩) hl hH hS e1 z1 o1 hAr hNm hn hz kk
      · cases h
  · rename_i n r
    split at h
    · cases h
    · rename_i hneg
      split at h
      · rename_i hle
        cases h
        intro ls H locs hl hH hS
        refine va_newaK (atype := .boolean) X.1 X.2.1 (X.2.2.2.2.1 _ ov_w_az) rfl hd rfl hneg rfl (show n.toNatClampNeg * 1 ≤ _ by omega) (ov_nwlen hc hn) (ov_nwsz hs hz) rfl fun H1 cA e1 z1 o1 hAr hNm => ?_
        exact ov_s_newK X (t := 2) (by decide) rfl (fun z => by cases z) hl hH hS e1 z1 o1 hAr hNm hn hz kk
      · cases h
  · cases h
set_option maxHeartbeats 1000000 in
theorem ov_s_anew (X : ov_X p s m args meth c D M) {idx : Nat} (hd : decode (ov_byt M) pc = .ok (.anewarray idx, 3)) (h : ov_an (ov_oc M) idx pc lv st μ = some x') (hn : n0 ≤ μ.1.length) (hz : z0 ≤ ov_sz μ.1) (hc : x'.2.2.2.1.length - n0 ≤ R.cells) (hs : ov_sz x'.2.2.2.1 - z0 ≤ R.slots) (kk : ov_W p l e R s m args below meth c Q D b h0 n0 z0 M x') : ov_W p l e R s m args below meth c Q D b h0 n0 z0 M (pc, lv, st, μ) := by
  unfold ov_an at h
  split at h
  · rename_i n r i hf
    split at h
    · cases h
    · rename_i hneg
      split at h
      · rename_i hle
        cases h
        intro ls H locs hl hH hS
        have h1 := List.all_eq_true.mp ov_nall _ (ov_find_mem hf)
        unfold ov_nOK at h1
        dsimp only at h1
        rw [(ov_key idx M).1, (ov_key idx M).2] at h1
        have h1 : (ov_ix i.1 (.classLink (ov_cname (ov_oc M)) idx "OnlyEntrances$Stage") && ov_ix i.2.1 (.instantiable "OnlyEntrances$Stage" 5) && ov_ix i.2.2 (.initialized "OnlyEntrances$Stage")) = true := h1
        simp only [Bool.and_eq_true] at h1
        refine W.anew X.1 X.2.1 X.2.2.2.1 (X.2.2.2.2.1 _ (ov_ixm h1.1.1)) (va_AO.use X.2.2.2.2.2.2.2) rfl hd rfl hneg (by omega) (ov_nwlen hc hn) (ov_nwsz hs hz) fun cA kA comp f1 f2 f3 f4 => ?_
        generalize hH1 : H.push ({ cls := cA, slots := Array.replicate n.toNatClampNeg .null, vm := .none } : Cell) = H1
        have z1 : H1.size = H.size + 1 := by rw [← hH1, Array.size_push]
        have e1 : H1[H.size]? = some (arrV cA n.toNatClampNeg (fun _ => .null)) := by rw [← hH1, Array.getElem?_push_size, ← arrV_new]
        have o1 : ∀ q : Nat, q < H.size → H1[q]? = H[q]? := fun q hq => by rw [← hH1, Array.getElem?_push, if_neg (Nat.ne_of_lt hq)]
        have hAr : ArrOfT s cA (.object "OnlyEntrances$Stage") := fun N z => ⟨(fun k h => by cases h), kA, f2, comp, f3⟩
        exact ov_s_newK X (t := 3) (by decide) rfl (fun z => by cases z) hl hH hS e1 z1 o1 hAr ⟨kA, comp, f2, f3, f4, f1⟩ hn hz kk
      · cases h
  · cases h
theorem ov_nn {z : Int32} (hz : ¬ z < 0) : z.toInt = (z.toNatClampNeg : Int) := by
  have hz0 : (0 : Int) ≤ z.toInt := by
    have := Int32.not_lt.mp hz
    simpa using Int32.le_iff_toInt_le.mp this
  show z.toInt = ((z.toInt.toNat : Nat) : Int)
  omega
theorem ov_cvcpy {f g : Nat → Value} {sp dp n : Nat} : (fun j => ov_cv b h0 (va_cpy f g sp dp n j)) = va_cpy (fun j => ov_cv b h0 (f j)) (fun j => ov_cv b h0 (g j)) sp dp n := by
  funext j
  unfold va_cpy
  split <;> rfl
set_option maxHeartbeats 2000000 in
theorem ov_s_cy (X : ov_X p s m args meth c D M) {idx : Nat} (hRf : 1 ≤ R.frames) (hRl : 64 ≤ R.locals) (hd : decode (ov_byt M) pc = .ok (.invokestatic idx, 3)) (h : ov_cy (ov_oc M) idx pc lv st μ = some x') (kk : ov_W p l e R s m args below meth c Q D b h0 n0 z0 M x') : ov_W p l e R s m args below meth c Q D b h0 n0 z0 M (pc, lv, st, μ) := by
  unfold ov_cy at h
  split at h
  · rename_i n dp a sp a0 r i hf
    split at h
    · rename_i y0 k0 y1 k1 ha0 ha1
      split at h
      · cases h
      · rename_i hq
        cases h
        have q1 : ¬ n < 0 := fun z => hq (Or.inl z)
        have q2 : ¬ dp < 0 := fun z => hq (Or.inr (Or.inl z))
        have q3 : ¬ sp < 0 := fun z => hq (Or.inr (Or.inr (Or.inl z)))
        have q4 : sp.toNatClampNeg + n.toNatClampNeg ≤ k0 := Nat.not_lt.mp fun z => hq (Or.inr (Or.inr (Or.inr (Or.inl z))))
        have q5 : dp.toNatClampNeg + n.toNatClampNeg ≤ k1 := Nat.not_lt.mp fun z => hq (Or.inr (Or.inr (Or.inr (Or.inr (Or.inl z)))))
        have q6 : (r.map fun v => v.category).sum ≤ 8 := Nat.not_lt.mp fun z => hq (Or.inr (Or.inr (Or.inr (Or.inr (Or.inr z)))))
        intro ls H locs hl hH hS
        have h1 := ov_ixm (List.all_eq_true.mp ov_call _ (ov_find_mem hf))
        dsimp only at h1
        rw [(ov_key idx M).1, (ov_key idx M).2] at h1
        have hts := X.2.2.2.2.1
        obtain ⟨i0, c0, e0, g1, g2, g3, g4⟩ := hH.arr (by decide) (by decide) ha0
        obtain ⟨i1, c1, e1, f1, f2, f3, f4⟩ := hH.arr (by decide) (by decide) ha1
        cases e0; cases e1
        intro T hT XX
        obtain ⟨-, kc0, hk0, cm0, hkk0⟩ := g1 k0 (fun k => ov_cv b h0 (μ.2 (a0 + 1) k))
        obtain ⟨-, kc1, hk1, cm1, hkk1⟩ := f1 k1 (fun k => ov_cv b h0 (μ.2 (a + 1) k))
        have hc1 : H[h0 + a]? = some (arrV c1 k1 (fun k => ov_cv b h0 (μ.2 (a + 1) k))) := f3
        obtain ⟨vm', X', step⟩ := XX.arraycopy X.1 X.2.2.2.1 (hts _ h1) (hts _ ov_w_nat) (hts _ ov_w_sta) (hts _ ov_w_sys) (src := h0 + a0) (dst := h0 + a) (cs := arrV c0 k0 (fun k => ov_cv b h0 (μ.2 (a0 + 1) k))) (cd := arrV c1 k1 (fun k => ov_cv b h0 (μ.2 (a + 1) k))) (srcPos := sp) (destPos := dp) (n := n) (by rw [hT]; exact g3) (by rw [hT]; exact hc1)
          (fun _ h => by cases h) (fun _ h => by cases h) (fun h => by cases h) (fun h => by cases h) hk0 hk1 hkk0 hkk1 (by rfl) q3 q2 q1
          (by rw [ov_nn q3, ov_nn q1, arrV_size]; omega)
          (by rw [ov_nn q2, ov_nn q1, arrV_size]; omega)
          (fun vm₁ _ i hi => by
            obtain ⟨x, hx⟩ := g4 rfl (sp.toNatClampNeg + i) (by omega)
            have e : (arrV c0 k0 (fun k => ov_cv b h0 (μ.2 (a0 + 1) k))).slots.getD (sp.toNatClampNeg + i) .null = .int x := by
              rw [Array.getD_eq_getD_getElem?, arrV_read _ _ (by omega)]
              exact hx
            refine ⟨?_, ?_⟩
            · rw [e]
              rfl
            · rw [e]
              exact trivial)
          (g := F0 m pc ls (.int n :: .int dp :: .ref (h0 + a) :: .int sp :: .ref (h0 + a0) :: r.map (ov_cv b h0))) rfl (by rw [X.2.2.1]; exact hl.1) (rest := r.map (ov_cv b h0)) rfl (by rw [X.2.1]; exact hd) hRf (by
            show 2 * 0 + ((r.map (ov_cv b h0)).map fun v => v.category).sum + _ ≤ R.locals
            rw [ov_cats]
            have : nativeFrameWords "java/lang/System" "arraycopy" 5 = 7 := by decide
            omega)
        have ec : copied (arrV c0 k0 (fun k => ov_cv b h0 (μ.2 (a0 + 1) k))) (arrV c1 k1 (fun k => ov_cv b h0 (μ.2 (a + 1) k))) sp dp n = arrV c1 k1 (fun j => ov_cv b h0 (va_cpy (μ.2 (a0 + 1)) (μ.2 (a + 1)) sp.toNatClampNeg dp.toNatClampNeg n.toNatClampNeg j)) := by
          rw [ov_cvcpy]
          exact va_copied (fun z => z) c0 c1 (fun k => ov_cv b h0 (μ.2 (a0 + 1) k)) (fun k => ov_cv b h0 (μ.2 (a + 1) k)) q4
        rw [ec] at X' step
        have hla : h0 + a < H.size := (Array.getElem?_eq_some_iff.mp hc1).1
        generalize hZ : arrV c1 k1 (fun j => ov_cv b h0 (va_cpy (μ.2 (a0 + 1)) (μ.2 (a + 1)) sp.toNatClampNeg dp.toNatClampNeg n.toNatClampNeg j)) = Z at X' step
        have hheap : ((T.setVm vm').setCell (h0 + a) Z).heap = H.setIfInBounds (h0 + a) Z := by rw [← hT]; rfl
        have oq : ∀ q : Nat, q ≠ h0 + a → (H.setIfInBounds (h0 + a) Z)[q]? = H[q]? := fun q hq => by simp [Array.getElem?_setIfInBounds, Ne.symm hq]
        have es : (H.setIfInBounds (h0 + a) Z)[h0 + a]? = some Z := by simp [Array.getElem?_setIfInBounds, hla]
        have ez : (H.setIfInBounds (h0 + a) Z).size = H.size := by simp
        obtain ⟨t, a1, b1⟩ := kk ls _ _ hl (hH.rp ha1 ez oq (ov_ar (by decide) f1 f2 (by rw [es, ← hZ]) (fun z q hq => by
          unfold va_cpy
          try dsimp only
          split
          · exact g4 rfl _ (by omega)
          · exact f4 rfl q hq))) ⟨by rw [ez]; exact hS.1, fun q g1 g2 => by
            rw [oq q (fun e => g2 (by rw [e]; exact Nat.le_add_right _ _))]
            exact hS.2.1 q g1 g2, fun q hq => by
            rcases List.mem_append.mp hq with h | h
            · exact hS.2.2 q h
            · obtain ⟨z, -, hz⟩ := List.mem_map.mp h
              rw [← hz]
              exact Nat.le_add_right _ _⟩ _ hheap X'
        exact ⟨t, step t a1, b1⟩
    · cases h
  · cases h
theorem ov_s_mth (X : ov_X p s m args meth c D M) {idx : Nat} (hRf : 1 ≤ R.frames) (hRl : 64 ≤ R.locals) (hc : μ.1.length - n0 ≤ R.cells) (hs : ov_sz μ.1 - z0 ≤ R.slots) (hd : decode (ov_byt M) pc = .ok (.invokestatic idx, 3)) (h : ov_sta (ov_oc M) idx pc lv st μ = some x') (kk : ov_W p l e R s m args below meth c Q D b h0 n0 z0 M x') : ov_W p l e R s m args below meth c Q D b h0 n0 z0 M (pc, lv, st, μ) := by
  unfold ov_sta at h
  split at h
  · rename_i op i hf
    have h1 := ov_ixm (List.all_eq_true.mp ov_xall _ (ov_find_mem hf))
    dsimp only at h1
    rw [(ov_key idx M).1, (ov_key idx M).2] at h1
    have hts := X.2.2.2.2.1
    have room : ∀ r : List Value, ¬ 8 < (r.map fun v => v.category).sum → ((r.map (ov_cv b h0)).map fun v => v.category).sum + 13 ≤ R.locals := by
      intro r hr
      rw [ov_cats]
      omega
    unfold ov_mth at h
    split at h
    · split at h
      · cases h
      · rename_i hr
        cases h
        intro ls H locs hl hH hS
        exact va_mabs X.1 X.2.1 (by rw [X.2.2.1]; exact hl.1.symm) X.2.2.2.1 (hts _ h1) (hts _ ov_w_m0.1) (hts _ ov_w_m) (hts _ ov_w_m0.2) hRf (room _ hr) hc hs hd (kk ls H locs hl hH hS)
    · split at h
      · cases h
      · rename_i hr
        cases h
        intro ls H locs hl hH hS
        exact va_mmax X.1 X.2.1 (by rw [X.2.2.1]; exact hl.1.symm) X.2.2.2.1 (hts _ h1) (hts _ ov_w_m1.1) (hts _ ov_w_m) (hts _ ov_w_m1.2) hRf (room _ hr) hc hs hd (kk ls H locs hl hH hS)
    · split at h
      · cases h
      · rename_i hr
        cases h
        intro ls H locs hl hH hS
        exact va_mabs_long X.1 X.2.1 (by rw [X.2.2.1]; exact hl.1.symm) X.2.2.2.1 (hts _ h1) (hts _ ov_w_m2.1) (hts _ ov_w_m) (hts _ ov_w_m2.2) hRf (room _ hr) hc hs hd (kk ls H locs hl hH hS)
    · cases h
  · exact ov_s_cy X hRf hRl hd h kk
end ov_S
