def ov_sm {σ ε : Type} (f : σ → Prop) (g : ε → Prop) : σ ⊕ ε → Prop
  | .inl s => f s
  | .inr e => g e
theorem ov_lp_S {σ ε : Type} {body : σ → Option (σ ⊕ ε)} {head : σ → Prop} {exit : ε → Prop} (hb : ∀ s r, body s = some r → ov_sm head exit r → head s) (n : Nat) (s : σ) (e : ε) (h : ov_lp body n s = some e) (hx : exit e) : head s :=
  ov_lp_J (fun s r h hk => hb s r h (by cases r <;> exact hk)) n s e h hx
theorem ov_le_e : ov_le [] [] := trivial
theorem ov_le_s {v : Value} {r s : List (Option Value)} (h : ov_le r s) : ov_le (some v :: r) (some v :: s) := ⟨rfl, h⟩
theorem ov_le_n {o : Option Value} {r s : List (Option Value)} (h : ov_le r s) : ov_le (none :: r) (o :: s) := h
theorem oS_18 : ov_St 18 := Or.inl rfl
theorem oS_21 : ov_St 21 := Or.inr (Or.inl rfl)
theorem oS_36 : ov_St 36 := Or.inr (Or.inr (Or.inl rfl))
theorem oS_39 : ov_St 39 := Or.inr (Or.inr (Or.inr rfl))
theorem oP_4 : ov_Pl 4 := Or.inl rfl
theorem oP_11 : ov_Pl 11 := Or.inr rfl
theorem st_l1 {a : Nat} (h : ov_St a) : ov_ln (a + 1) = 6 := by rcases h with rfl | rfl | rfl | rfl <;> rfl
theorem st_l2 {a : Nat} (h : ov_St a) : ov_ln (a + 2) = 4 := by rcases h with rfl | rfl | rfl | rfl <;> rfl
theorem oG_1 : ∀ j, ov_cd 1 j = 1 → j = 11 := by
  intro j h
  by_cases hj : j < 12
  · revert h
    have : ∀ j, j < 12 → ov_cd 1 j = 1 → j = 11 := by decide
    exact this j hj
  · unfold ov_cd at h
    rw [List.getD_eq_getElem?_getD (l := ov_st.getD 1 []), List.getElem?_eq_none (by show 12 ≤ j; omega)] at h
    cases h
theorem oG_42 : ∀ j, ov_cd 42 j = 1 → j = 33 := by
  intro j h
  by_cases hj : j < 43
  · revert h
    have : ∀ j, j < 43 → ov_cd 42 j = 1 → j = 33 := by decide +kernel
    exact this j hj
  · unfold ov_cd at h
    rw [List.getD_eq_getElem?_getD (l := ov_st.getD 42 []), List.getElem?_eq_none (by show 43 ≤ j; omega)] at h
    cases h
