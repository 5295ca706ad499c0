-- HOW THE PURE HEAP AND LOCALS STAND IN THE MACHINE
def ov_ad (b h0 : Nat) : Nat → Nat
  | 0 => b
  | i + 1 => h0 + i
def ov_cv (b h0 : Nat) : Value → Value
  | .ref i => .ref (ov_ad b h0 i)
  | v => v
theorem ov_cat {b h0 : Nat} (v : Value) : (ov_cv b h0 v).category = v.category := by cases v <;> rfl
theorem ov_cats {b h0 : Nat} (r : List Value) : ((r.map (ov_cv b h0)).map fun v => v.category).sum = (r.map fun v => v.category).sum := by
  rw [List.map_map]
  congr 1
  apply List.map_congr_left
  intro v _
  exact ov_cat v
def ov_LV (b h0 : Nat) (ls : Array Slot) (nL : Nat) (lv : List (Option Value)) : Prop := ls.size = nL ∧ lv_wf ls ∧ lv.length = nL ∧ ∀ (i : Nat) (v : Value), lv[i]? = some (some v) → ls[i]? = some (.val (ov_cv b h0 v))
theorem ov_getD {lv : List (Option Value)} {k : Nat} {v : Value} (hk : lv.getD k none = some v) : lv[k]? = some (some v) := by
  rw [List.getD_eq_getElem?_getD] at hk
  cases hq : lv[k]? with
  | none => rw [hq] at hk; cases hk
  | some o => rw [hq] at hk; exact congrArg some hk
theorem ov_LV.get {b h0 nL k : Nat} {ls : Array Slot} {lv : List (Option Value)} {v : Value} (h : ov_LV b h0 ls nL lv) (hk : lv.getD k none = some v) : ls[k]? = some (.val (ov_cv b h0 v)) := h.2.2.2 k v (ov_getD hk)
def ov_av (b h0 : Nat) (lv : List (Option Value)) : List (Nat × Value) := (List.range lv.length).filterMap (fun i => match lv.getD i none with
  | some v => some (i, ov_cv b h0 v)
  | none => none)
theorem ov_LV.has {b h0 nL : Nat} {ls : Array Slot} {lv : List (Option Value)} (h : ov_LV b h0 ls nL lv) : lv_has ls nL (ov_av b h0 lv) := by
  refine ⟨h.1, h.2.1, fun q hq => ?_⟩
  obtain ⟨i, -, hi⟩ := List.mem_filterMap.mp hq
  split at hi
  · rename_i v hv
    cases hi
    exact h.get hv
  · cases hi
theorem ov_mem_av {b h0 i : Nat} {lv : List (Option Value)} {v : Value} (h : lv[i]? = some (some v)) : (i, ov_cv b h0 v) ∈ ov_av b h0 lv := by
  refine List.mem_filterMap.mpr ⟨i, List.mem_range.mpr (List.getElem?_eq_some_iff.mp h).1, ?_⟩
  have e : lv.getD i none = some v := by rw [List.getD_eq_getElem?_getD, h]; rfl
  rw [e]
theorem ov_two_c (v : Value) : ov_two (some v) = true ↔ v.category = 2 := by cases v <;> simp [ov_two, Value.category]
theorem ov_cut_len (w : Bool) (r : List (Option Value)) : (ov_cut w r).length = r.length := by
  cases w <;> cases r <;> rfl
theorem ov_ls_len : ∀ (lv : List (Option Value)) (i : Nat) (v : Value), (ov_ls lv i v).length = lv.length
  | [], _, _ => rfl
  | _ :: r, 0, v => by simp [ov_ls, ov_cut_len]
  | o :: r, i + 1, v => by simp [ov_ls, ov_ls_len r i v]
theorem ov_ls_spec : ∀ (lv : List (Option Value)) (i : Nat) (v : Value) (j : Nat) (w : Value), (ov_ls lv i v)[j]? = some (some w) → (j = i ∧ w = v) ∨ (j ≠ i ∧ lv[j]? = some (some w) ∧ (w.category = 2 → j + 1 ≠ i) ∧ (v.category = 2 → j ≠ i + 1))
  | [], i, v, j, w, h => by simp [ov_ls] at h
  | o :: r, 0, v, j, w, h => by
    cases j with
    | zero =>
      simp only [ov_ls, List.getElem?_cons_zero, Option.some.injEq] at h
      exact Or.inl ⟨rfl, h.symm⟩
    | succ j =>
      simp only [ov_ls, List.getElem?_cons_succ] at h
      refine Or.inr ⟨Nat.succ_ne_zero j, ?_⟩
      rw [List.getElem?_cons_succ]
      cases hb : ov_two (some v) with
      | false =>
        rw [hb] at h
        have h : r[j]? = some (some w) := by cases r <;> exact h
        exact ⟨h, fun _ => by omega, fun hc => by rw [(ov_two_c v).mpr hc] at hb; cases hb⟩
      | true =>
        rw [hb] at h
        cases r with
        | nil => simp [ov_cut] at h
        | cons q r' =>
          cases j with
          | zero => simp [ov_cut] at h
          | succ j =>
            have h : r'[j]? = some (some w) := h
            exact ⟨h, fun _ => by omega, fun _ => by omega⟩
  | o :: r, i + 1, v, j, w, h => by
    cases j with
    | zero =>
      simp only [ov_ls, List.getElem?_cons_zero, Option.some.injEq] at h
      refine Or.inr ⟨by omega, ?_, ?_, fun _ => by omega⟩
      · split at h
        · cases h
        · rw [h]; rfl
      · intro hc he
        have hi : i = 0 := by omega
        subst hi
        split at h
        · cases h
        · rename_i hx
          have h2 : o = some w := h
          subst h2
          exact hx rfl ((ov_two_c w).mpr hc)
    | succ j =>
      simp only [ov_ls, List.getElem?_cons_succ] at h
      rw [List.getElem?_cons_succ]
      rcases ov_ls_spec r i v j w h with ⟨h1, h2⟩ | ⟨h1, h2, h3, h4⟩
      · exact Or.inl ⟨by omega, h2⟩
      · exact Or.inr ⟨by omega, h2, fun hc => by have := h3 hc; omega, fun hc => by have := h4 hc; omega⟩
theorem ov_LV.st1 {b h0 nL i : Nat} {ls ls' : Array Slot} {lv : List (Option Value)} {v : Value} (h : ov_LV b h0 ls nL lv) (hs : lv_has ls' nL ((i, ov_cv b h0 v) :: (ov_av b h0 lv).filter (fun q => !(q.1 == i) && !(q.1 + 1 == i && q.2.category == 2)))) : ov_LV b h0 ls' nL (ov_ls lv i v) := by
  refine ⟨hs.1, hs.2.1, by rw [ov_ls_len]; exact h.2.2.1, fun j w hj => ?_⟩
  rcases ov_ls_spec lv i v j w hj with ⟨rfl, rfl⟩ | ⟨h1, h2, h3, h4⟩
  · exact hs.2.2 (j, ov_cv b h0 w) List.mem_cons_self
  · refine hs.2.2 (j, ov_cv b h0 w) (List.mem_cons_of_mem _ (List.mem_filter.mpr ⟨ov_mem_av h2, ?_⟩))
    have e1 : (j == i) = false := by simpa using h1
    show (!(j == i) && !(j + 1 == i && (ov_cv b h0 w).category == 2)) = true
    rw [e1, ov_cat]
    by_cases hc : w.category = 2
    · have e2 : (j + 1 == i) = false := by simpa using h3 hc
      rw [e2]; rfl
    · have e3 : (w.category == 2) = false := by simpa using hc
      rw [e3, Bool.and_false]; rfl
theorem ov_LV.st2 {b h0 nL i : Nat} {ls ls' : Array Slot} {lv : List (Option Value)} {v : Value} (h : ov_LV b h0 ls nL lv) (hv : v.category = 2) (hs : lv_has ls' nL ((i, ov_cv b h0 v) :: (ov_av b h0 lv).filter (fun q => !(q.1 == i) && (!(q.1 == i + 1) && !(q.1 + 1 == i && q.2.category == 2))))) : ov_LV b h0 ls' nL (ov_ls lv i v) := by
  refine ⟨hs.1, hs.2.1, by rw [ov_ls_len]; exact h.2.2.1, fun j w hj => ?_⟩
  rcases ov_ls_spec lv i v j w hj with ⟨rfl, rfl⟩ | ⟨h1, h2, h3, h4⟩
  · exact hs.2.2 (j, ov_cv b h0 w) List.mem_cons_self
  · refine hs.2.2 (j, ov_cv b h0 w) (List.mem_cons_of_mem _ (List.mem_filter.mpr ⟨ov_mem_av h2, ?_⟩))
    have e1 : (j == i) = false := by simpa using h1
    have e4 : (j == i + 1) = false := by simpa using h4 hv
    show (!(j == i) && (!(j == i + 1) && !(j + 1 == i && (ov_cv b h0 w).category == 2))) = true
    rw [e1, e4, ov_cat]
    by_cases hc : w.category = 2
    · have e2 : (j + 1 == i) = false := by simpa using h3 hc
      rw [e2]; rfl
    · have e3 : (w.category == 2) = false := by simpa using hc
      rw [e3, Bool.and_false]; rfl
-- the heap
abbrev ov_G : Type := va_G × Nat × (Nat → Int32)
def ov_KK (D : ov_G) (s : State) : Prop := va_K D.1 ov_cl [] s ∧ va_AO "OnlyEntrances$Stage" s
def ov_cell (D : va_G) (s : State) (a : Nat) (sh : ov_Sh) (f : Nat → Value) (H : Heap) : Prop :=
  (sh.1 = 0 → ∃ r : vw_C, ov_cl[sh.2.1]? = some r ∧ r.2.2 = sh.2.2 ∧ t_OB a (D.1 sh.2.1) sh.2.2 (D.2 sh.2.1) H f) ∧
  (sh.1 ≠ 0 → ∃ cA : ClassId, ArrOfT s cA (ov_aty sh.1) ∧ va_RA s cA (ov_aty sh.1) ∧ H[a]? = some (arrV cA sh.2.2 f)) ∧ (sh.1 = 1 → ∀ j, j < sh.2.2 → ∃ x, f j = .int x)
def ov_HP (D : ov_G) (b h0 : Nat) (s : State) (μ : ov_Mem) (H : Heap) : Prop :=
  H.size + 1 = h0 + μ.1.length ∧ b < h0 ∧ (va_X b D.2.1 D.2.2 s H ∧ ((μ.1[0]? = some (9, 0, D.2.1) ∧ ∀ j, j < D.2.1 → μ.2 0 j = .int (D.2.2 j)) ∨ μ.1[0]? = some (8, 0, 0))) ∧
  ∀ (i : Nat) (sh : ov_Sh), μ.1[i + 1]? = some sh → ov_cell D.1 s (h0 + i) sh (fun k => ov_cv b h0 (μ.2 (i + 1) k)) H
theorem ov_cell.kept {D : va_G} {s : State} {a : Nat} {sh : ov_Sh} {f : Nat → Value} {H H1 : Heap} (h : ov_cell D s a sh f H) (e : H1[a]? = H[a]?) : ov_cell D s a sh f H1 := by
  refine ⟨fun z => ?_, fun z => ?_, h.2.2⟩
  · obtain ⟨r, h1, h2, h3⟩ := h.1 z
    exact ⟨r, h1, h2, h3.kept e⟩
  · obtain ⟨cA, h1, h2, h3⟩ := h.2.1 z
    exact ⟨cA, h1, h2, by rw [e]; exact h3⟩
theorem ov_cell.moved {D : va_G} {u U : State} {a : Nat} {sh : ov_Sh} {f : Nat → Value} {H : Heap} (hvm : u.vm.Alike U.vm) (h : ov_cell D u a sh f H) : ov_cell D U a sh f H := by
  refine ⟨h.1, fun z => ?_, h.2.2⟩
  obtain ⟨cA, h1, h2, h3⟩ := h.2.1 z
  exact ⟨cA, arrOfT_moved hvm h1, h2.moved hvm, h3⟩
theorem ov_HP.moved {D : ov_G} {b h0 : Nat} {u U : State} {μ : ov_Mem} {H : Heap} (hvm : u.vm.Alike U.vm) (h : ov_HP D b h0 u μ H) : ov_HP D b h0 U μ H := by
  obtain ⟨h1, h2, ⟨h5, h3⟩, h6⟩ := h
  exact ⟨h1, h2, ⟨h5.moved hvm, h3⟩, fun i sh hi => (h6 i sh hi).moved hvm⟩
theorem ov_KK.moved {D : ov_G} {u U : State} (hvm : u.vm.Alike U.vm) (h : ov_KK D u) : ov_KK D U := ⟨va_K.moved hvm h.1, va_AO.moved hvm h.2⟩
theorem ov_HP.rp {D : ov_G} {b h0 : Nat} {s : State} {μ : ov_Mem} {H H1 : Heap} {i : Nat} {sh : ov_Sh} {g : Nat → Value} (h : ov_HP D b h0 s μ H) (hi : μ.1[i + 1]? = some sh) (hz : H1.size = H.size) (ho : ∀ q : Nat, q ≠ h0 + i → H1[q]? = H[q]?)
    (hc : ov_cell D.1 s (h0 + i) sh (fun k => ov_cv b h0 (g k)) H1) : ov_HP D b h0 s (ov_rp μ (i + 1) g) H1 := by
  obtain ⟨h1, h2, ⟨h5, h3⟩, h6⟩ := h
  refine ⟨by rw [hz]; exact h1, h2, ⟨h5.kept (ho b (by omega)), ?_⟩, fun k sk hk => ?_⟩
  · rcases h3 with ⟨h3, h4⟩ | h3
    · refine Or.inl ⟨h3, fun j hj => ?_⟩
      show (if 0 = i + 1 then g else μ.2 0) j = _
      rw [if_neg (by omega)]
      exact h4 j hj
    · exact Or.inr h3
  · have hk' : μ.1[k + 1]? = some sk := hk
    by_cases e : k = i
    · subst e
      cases hi.symm.trans hk'
      have e2 : (ov_rp μ (k + 1) g).2 (k + 1) = g := by show (if k + 1 = k + 1 then g else _) = g; rw [if_pos rfl]
      rw [e2]
      exact hc
    · have e2 : (ov_rp μ (i + 1) g).2 (k + 1) = μ.2 (k + 1) := by show (if k + 1 = i + 1 then g else _) = _; rw [if_neg (by omega)]
      rw [e2]
      exact (h6 k sk hk').kept (ho (h0 + k) (by omega))
theorem ov_HP.nw {D : ov_G} {b h0 : Nat} {s : State} {μ : ov_Mem} {H H1 : Heap} {sh : ov_Sh} {g : Nat → Value} (h : ov_HP D b h0 s μ H) (hz : H1.size = H.size + 1) (ho : ∀ q : Nat, q < H.size → H1[q]? = H[q]?)
    (hc : ov_cell D.1 s H.size sh (fun k => ov_cv b h0 (g k)) H1) : ov_HP D b h0 s (ov_nw μ sh g) H1 ∧ ov_ad b h0 μ.1.length = H.size := by
  obtain ⟨h1, h2, ⟨h5, h3⟩, h6⟩ := h
  have hl : 0 < μ.1.length := by
    rcases h3 with ⟨h3, -⟩ | h3 <;> exact (List.getElem?_eq_some_iff.mp h3).1
  obtain ⟨n, hn⟩ : ∃ n, μ.1.length = n + 1 := ⟨μ.1.length - 1, by omega⟩
  have hs : H.size = h0 + n := by omega
  have hb : b < H.size := by omega
  refine ⟨⟨?_, h2, ⟨h5.kept (ho b hb), ?_⟩, fun k sk hk => ?_⟩, by rw [hn]; exact hs.symm⟩
  · show H1.size + 1 = h0 + (μ.1 ++ [sh]).length
    rw [List.length_append]
    simp only [List.length_cons, List.length_nil]
    omega
  · rcases h3 with ⟨h3, h4⟩ | h3
    · refine Or.inl ⟨?_, fun j hj => ?_⟩
      · show (μ.1 ++ [sh])[0]? = _
        rw [List.getElem?_append_left hl]
        exact h3
      · show (if 0 = μ.1.length then g else μ.2 0) j = _
        rw [if_neg (by omega)]
        exact h4 j hj
    · refine Or.inr ?_
      show (μ.1 ++ [sh])[0]? = _
      rw [List.getElem?_append_left hl]
      exact h3
  · have hk' : (μ.1 ++ [sh])[k + 1]? = some sk := hk
    by_cases e : k + 1 < μ.1.length
    · rw [List.getElem?_append_left e] at hk'
      have e2 : (ov_nw μ sh g).2 (k + 1) = μ.2 (k + 1) := by show (if k + 1 = μ.1.length then g else _) = _; rw [if_neg (by omega)]
      rw [e2]
      exact (h6 k sk hk').kept (ho (h0 + k) (by omega))
    · rw [List.getElem?_append_right (by omega)] at hk'
      have hz2 : k + 1 - μ.1.length < 1 := (List.getElem?_eq_some_iff.mp hk').1
      rw [show k + 1 - μ.1.length = 0 by omega] at hk'
      cases hk'
      have e3 : k + 1 = μ.1.length := by omega
      have e2 : (ov_nw μ sh g).2 (k + 1) = g := by show (if k + 1 = μ.1.length then g else _) = _; rw [if_pos e3]
      rw [e2, show h0 + k = H.size by omega]
      exact hc
theorem ov_P1 {D : va_G} {s : State} {a ci n : Nat} {f : Nat → Value} {H : Heap} {r : vw_C} (h : ov_cell D s a (0, ci, n) f H) (hr : ov_cl[ci]? = some r) : va_P D ov_cl [(a, .inr (ci, (List.range r.2.2).map f))] H := by
  intro k q hq
  have hz : k < 1 := (List.getElem?_eq_some_iff.mp hq).1
  rw [show k = 0 by omega] at hq
  cases hq
  obtain ⟨r', h1, h2, h3⟩ := h.1 rfl
  cases hr.symm.trans h1
  refine ⟨r, hr, ?_⟩
  have h2 : r.2.2 = n := h2
  have h3 : t_OB a (D.1 ci) n (D.2 ci) H f := h3
  rw [h2]
  refine t_OB.to h3 fun k hk => ?_
  show f k = ((List.range n).map f).getD k .null
  rw [List.getD_eq_getElem?_getD, List.getElem?_map, List.getElem?_range hk]
  rfl
