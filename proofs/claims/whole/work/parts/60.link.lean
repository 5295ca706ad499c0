-- THE LAW OUT OF ITS READ-OFF FUNCTION
def ov_s0 (xs : Nat → Int32) : ov_S := fun a k => if a = 0 then xs k else (match ov_x1.2.2.2.2 a k with
  | .int x => x
  | _ => 0)
def ov_g0 : ov_L2 := fun _ => 0
def ov_chk (i : Nat) : Bool := match ov_sht[i]? with
  | some sh => (List.range sh.2.2).all (fun k => decide (ov_x1.2.2.2.2 (i + 1) k = ov_vv (ov_s0 (fun _ => 0)) ov_g0 (i + 1) k))
  | none => true
theorem ov_chk_ok : (List.range 66).all ov_chk = true := by decide +kernel
theorem ov_s0_eqm (L : Nat) (xs : Nat → Int32) : ov_eqm L xs ov_x1.2.2.2 (ov_mm L (ov_s0 xs) ov_g0) := by
  refine ⟨by rw [ov_x1sh]; rfl, rfl, fun j _ => rfl, fun i sh h => ?_⟩
  have h' : ov_sht[i]? = some sh := h
  refine ⟨by rw [ov_x1sh]; exact h', fun k hk => ?_⟩
  have hi : i < 66 := (List.getElem?_eq_some_iff.mp h').1
  have h1 := List.all_eq_true.mp ov_chk_ok i (List.mem_range.mpr hi)
  unfold ov_chk at h1
  rw [h'] at h1
  have h2 := of_decide_eq_true (List.all_eq_true.mp h1 k (List.mem_range.mpr hk))
  rw [h2]
  show ov_vv _ _ _ _ = ov_vv _ _ _ _
  unfold ov_vv
  have e : ov_s0 (fun _ => 0) (i + 1) k = ov_s0 xs (i + 1) k := by
    unfold ov_s0
    rw [if_neg (Nat.succ_ne_zero i), if_neg (Nat.succ_ne_zero i)]
  rw [e]
theorem ov_ret_law {x : ov_Cfg} {v : Int32} (h : ov_ret 0 x = some (some (.int v))) : decode code x.1 = .ok (.ireturn, 1) ∧ x.2.2.1 = [.int v] := by
  unfold ov_ret at h
  split at h
  · rename_i h1 h2 h3
    cases h
    exact ⟨h1, h3⟩
  · rename_i h1 h2 h3
    split at h
    · cases h
      exact ⟨h1, h3⟩
    · cases h
  · cases h
  · cases h
  · cases h
theorem ov_law_of (L : Nat) (hL : L ≤ 256) (xs : Nat → Int32) (h : ∃ S' G', f0 L (ov_s0 xs) ov_g0 0 = some (1, S', G')) : ov_Law L xs := by
  obtain ⟨S', G', h⟩ := h
  obtain ⟨k1, hN1⟩ := ov_x1r
  obtain ⟨k2, x, rv, S2, G2, hN2, hret, hmem, hrv⟩ := t0 (L := L) (P := fun r _ _ => r = some (.int 1)) h rfl _ (ov_le_rf _)
  subst hrv
  obtain ⟨hd, hst⟩ := ov_ret_law hret
  obtain ⟨e1, e2, e3⟩ := ov_x1a
  have hsz : ov_sz ov_sht ≤ 2000 := by decide
  have hl : ov_sht.length = 66 := by decide
  refine ⟨15, k1, k2, ov_x1, x, ov_mm L (ov_s0 xs) ov_g0, ?_, ov_monoN (fun _ _ _ _ _ h => ov_mono (d := 8) (by decide) h) k1 _ _ hN1, ?_, ov_s0_eqm L xs, by rw [e1, e2, e3]; exact hN2, hd, hst, ?_, ?_⟩
  · decide
  · rw [ov_x1sh]
    show ov_sz ((8, 0, 0) :: ov_sht) ≤ ov_sz ((9, 0, L) :: ov_sht)
    simp [ov_sz]
  · rw [hmem]
    show ((9, 0, L) :: ov_sht).length ≤ 1000
    rw [List.length_cons, hl]
    omega
  · rw [hmem]
    show ov_sz ((9, 0, L) :: ov_sht) ≤ 10000
    have : ov_sz ((9, 0, L) :: ov_sht) = L + ov_sz ov_sht := by simp [ov_sz]
    omega
