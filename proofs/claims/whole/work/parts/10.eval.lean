-- CLOSED RUNS BY EVALUATION
def ov_runF : Nat → Nat → Nat → ov_Cfg → Option (Option Value × ov_Mem)
  | 0, _, _, _ => none
  | F + 1, d, M, x => match ov_ret M x with
    | some rv => some (rv, x.2.2.2)
    | none => match ov_inv M x with
      | some (y, as, r) => (match d with
        | 0 => none
        | d' + 1 => (match ov_runF F d' y (ov_ent y as x.2.2.2) with
          | some (rv, μ') => ov_runF F (d' + 1) M (x.1 + 3, x.2.1, rv.toList ++ r, μ')
          | none => none))
      | none => (match ov_step M x with
        | some z => ov_runF F d M z
        | none => none)
theorem ov_runF_ok : ∀ (F d M : Nat) (x : ov_Cfg) (rv : Option Value) (μ' : ov_Mem), ov_runF F d M x = some (rv, μ') → ∃ (k : Nat) (x' : ov_Cfg), ov_N (ov_C d) M k x x' ∧ ov_ret M x' = some rv ∧ x'.2.2.2 = μ'
  | 0, _, _, _, _, _, h => by cases h
  | F + 1, d, M, x, rv, μ', h => by
    unfold ov_runF at h
    split at h
    · rename_i rv' hr
      cases h
      exact ⟨0, x, rfl, hr, rfl⟩
    · split at h
      · rename_i y as r hi
        cases d with
        | zero => cases h
        | succ d' =>
          dsimp only at h
          split at h
          · rename_i rv1 μ1 hc
            obtain ⟨k1, x1, g1, g2, g3⟩ := ov_runF_ok F d' y _ _ _ hc
            obtain ⟨k, x', e1, e2, e3⟩ := ov_runF_ok F (d' + 1) M _ _ _ h
            exact ⟨k + 1, x', ⟨_, Or.inr ⟨y, as, r, rv1, μ1, hi, ⟨k1, x1, g1, g2, g3⟩, rfl⟩, e1⟩, e2, e3⟩
          · cases h
      · split at h
        · rename_i z hz
          obtain ⟨k, x', e1, e2, e3⟩ := ov_runF_ok F d M z _ _ h
          exact ⟨k + 1, x', ⟨z, Or.inl hz, e1⟩, e2, e3⟩
        · cases h
def ov_runS (stop : Nat) : Nat → Nat → Nat → ov_Cfg → Option ov_Cfg
  | 0, _, _, _ => none
  | F + 1, d, M, x => bif Nat.beq x.1 stop then some x else match ov_inv M x with
      | some (y, as, r) => (match d with
        | 0 => none
        | d' + 1 => (match ov_runF F d' y (ov_ent y as x.2.2.2) with
          | some (rv, μ') => ov_runS stop F (d' + 1) M (x.1 + 3, x.2.1, rv.toList ++ r, μ')
          | none => none))
      | none => (match ov_step M x with
        | some z => ov_runS stop F d M z
        | none => none)
theorem ov_runS_ok {stop : Nat} : ∀ (F d M : Nat) (x x' : ov_Cfg), ov_runS stop F d M x = some x' → ∃ (k : Nat), ov_N (ov_C d) M k x x'
  | 0, _, _, _, _, h => by cases h
  | F + 1, d, M, x, x', h => by
    unfold ov_runS at h
    cases hb : Nat.beq x.1 stop with
    | true => rw [hb] at h; cases h; exact ⟨0, rfl⟩
    | false =>
      rw [hb, cond_false] at h
      split at h
      · rename_i y as r hi
        cases d with
        | zero => cases h
        | succ d' =>
          dsimp only at h
          split at h
          · rename_i rv1 μ1 hc
            obtain ⟨k1, x1, g1, g2, g3⟩ := ov_runF_ok F d' y _ _ _ hc
            obtain ⟨k, e1⟩ := ov_runS_ok F (d' + 1) M _ _ h
            exact ⟨k + 1, _, Or.inr ⟨y, as, r, rv1, μ1, hi, ⟨k1, x1, g1, g2, g3⟩, rfl⟩, e1⟩
          · cases h
      · split at h
        · rename_i z hz
          obtain ⟨k, e1⟩ := ov_runS_ok F d M z _ h
          exact ⟨k + 1, z, Or.inl hz, e1⟩
        · cases h
def ov_x0 : ov_Cfg := (0, [some (.ref 0), none, none, none], [], ov_m1)
def ov_x1o : Option ov_Cfg := ov_runS 18 1000 8 0 ov_x0
def ov_x1 : ov_Cfg := ov_x1o.getD ov_x0
theorem ov_x1s : ov_x1o.isSome = true := by decide +kernel
theorem ov_x1r : ∃ k, ov_N (ov_C 8) 0 k ov_x0 ov_x1 := by
  have h := ov_x1s
  unfold ov_x1
  cases hq : ov_x1o with
  | none => rw [hq] at h; cases h
  | some x => exact ov_runS_ok _ _ _ _ _ hq
def ov_sht : List ov_Sh := [(0, 0, 12), (0, 1, 2), (1, 0, 60),
  (0, 2, 12), (1, 0, 3), (1, 0, 4), (1, 0, 6), (1, 0, 6), (1, 0, 6), (1, 0, 6),
  (0, 2, 12), (1, 0, 3), (1, 0, 4), (1, 0, 6), (1, 0, 6), (1, 0, 6), (1, 0, 6),
  (0, 3, 5), (1, 0, 6), (1, 0, 4), (0, 3, 5), (1, 0, 6), (1, 0, 4),
  (0, 4, 4), (1, 0, 14), (1, 0, 14), (1, 0, 14), (0, 5, 3), (1, 0, 6), (1, 0, 6), (0, 6, 4),
  (0, 7, 7), (1, 0, 9), (1, 0, 9), (3, 0, 2), (0, 3, 5), (1, 0, 6), (1, 0, 4), (0, 3, 5), (1, 0, 6), (1, 0, 4),
  (0, 8, 43), (1, 0, 60), (1, 0, 3), (1, 0, 6), (1, 0, 6), (1, 0, 6), (1, 0, 6), (1, 0, 3), (1, 0, 4), (1, 0, 6), (1, 0, 6), (1, 0, 6), (1, 0, 6),
  (1, 0, 12), (1, 0, 12), (1, 0, 12), (1, 0, 168), (1, 0, 24), (2, 0, 2), (1, 0, 6), (1, 0, 6), (1, 0, 18), (1, 0, 6), (1, 0, 18), (1, 0, 64)]
theorem ov_x1sh : ov_x1.2.2.2.1 = (8, 0, 0) :: ov_sht := by decide +kernel
theorem ov_x1a : ov_x1.1 = 18 ∧ ov_x1.2.1 = [some (.ref 0), some (.ref 1), some (.ref 42), some (.int 0)] ∧ ov_x1.2.2.1 = [] := by decide +kernel
