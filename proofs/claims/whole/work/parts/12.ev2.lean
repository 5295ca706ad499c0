-- WORDS OF THE READ-OFF FUNCTIONS: none is a fault (an index out of its row, no end in sight)
def ov_ck {α : Type} (b : Bool) (x : Option α) : Option α := match b with
  | true => x
  | false => none
theorem ov_ck_ok {α : Type} {b : Bool} {x : Option α} {y : α} (h : ov_ck b x = some y) : b = true ∧ x = some y := by
  cases b with
  | true => exact ⟨rfl, h⟩
  | false => cases h
theorem ov_ck_t {α : Type} {b : Bool} {x : Option α} (h : b = true) : ov_ck b x = x := by rw [h]; rfl
def ov_ibb (j : Int32) (n : Nat) : Bool := !(decide (j < 0) || decide (n ≤ j.toNatClampNeg))
theorem ov_ibk {j : Int32} {n : Nat} (h : ov_ibb j n = true) : ov_ib j n := by
  unfold ov_ibb at h
  unfold ov_ib
  simpa using h
def ov_b01 (v : Int32) : Bool := decide (v = 0) || decide (v = 1)
theorem ov_b01k {v : Int32} (h : ov_b01 v = true) : v = 0 ∨ v = 1 := by
  unfold ov_b01 at h
  simpa using h
def ov_nz (v : Int32) : Bool := !decide (v = 0)
theorem ov_nzk {v : Int32} (h : ov_nz v = true) : ¬ v = 0 := by
  unfold ov_nz at h
  simpa using h
def ov_nzl (v : Int64) : Bool := !decide (v = 0)
theorem ov_nzlk {v : Int64} (h : ov_nzl v = true) : ¬ v = 0 := by
  unfold ov_nzl at h
  simpa using h
theorem ov_bd {α β : Type} {x : Option α} {f : α → Option β} {y : β} (h : x.bind f = some y) : ∃ r, x = some r ∧ f r = some y := by
  cases x with
  | none => cases h
  | some r => exact ⟨r, rfl, h⟩
def ov_lp {σ ε : Type} (body : σ → Option (σ ⊕ ε)) : Nat → σ → Option ε
  | 0, _ => none
  | n + 1, s => match body s with
    | none => none
    | some (.inl s') => ov_lp body n s'
    | some (.inr e) => some e
theorem ov_lp_J {σ ε : Type} {body : σ → Option (σ ⊕ ε)} {head : σ → Prop} {exit : ε → Prop} (hb : ∀ s r, body s = some r → (match r with | .inl s' => head s' | .inr e => exit e) → head s) : ∀ (n : Nat) (s : σ) (e : ε), ov_lp body n s = some e → exit e → head s
  | 0, _, _, h, _ => by cases h
  | n + 1, s, e, h, hx => by
    unfold ov_lp at h
    cases hq : body s with
    | none => rw [hq] at h; cases h
    | some r =>
      rw [hq] at h
      refine hb s r hq ?_
      cases r with
      | inl s' => exact ov_lp_J hb n s' e h hx
      | inr e' => cases h; exact hx
-- the pooled kinds of objects: stages and plays
def ov_St (a : Nat) : Prop := a = 18 ∨ a = 21 ∨ a = 36 ∨ a = 39
def ov_Pl (a : Nat) : Prop := a = 4 ∨ a = 11
section ov_E
variable {L d M pc : Nat} {lv : List (Option Value)} {st : List Value} {S S1 : ov_S} {G G1 : ov_L2} {P : Option Value → ov_S → ov_L2 → Prop} {a : Nat}
theorem st_O (h : ov_St a) : ov_O a 3 := by rcases h with rfl | rfl | rfl | rfl <;> exact ⟨5, rfl, by decide⟩
theorem pl_O (h : ov_Pl a) : ov_O a 2 := by rcases h with rfl | rfl <;> exact ⟨12, rfl, by decide⟩
theorem st_v0 (h : ov_St a) : ov_vv S G a 0 = .ref 4 := by rcases h with rfl | rfl | rfl | rfl <;> rfl
theorem st_v1 (h : ov_St a) : ov_vv S G a 1 = .ref (a + 1) := by rcases h with rfl | rfl | rfl | rfl <;> rfl
theorem st_v2 (h : ov_St a) : ov_vv S G a 2 = .ref (a + 2) := by rcases h with rfl | rfl | rfl | rfl <;> rfl
theorem st_v3 (h : ov_St a) : ov_vv S G a 3 = .int (S a 3) := by rcases h with rfl | rfl | rfl | rfl <;> rfl
theorem st_v4 (h : ov_St a) : ov_vv S G a 4 = .int (S a 4) := by rcases h with rfl | rfl | rfl | rfl <;> rfl
theorem st_c3 (h : ov_St a) : ov_cd a 3 = 0 := by rcases h with rfl | rfl | rfl | rfl <;> rfl
theorem st_c4 (h : ov_St a) : ov_cd a 4 = 0 := by rcases h with rfl | rfl | rfl | rfl <;> rfl
theorem st_A1 (h : ov_St a) : ov_A 1 (a + 1) := by rcases h with rfl | rfl | rfl | rfl <;> exact ⟨rfl, by decide, rfl⟩
theorem st_A2 (h : ov_St a) : ov_A 1 (a + 2) := by rcases h with rfl | rfl | rfl | rfl <;> exact ⟨rfl, by decide, rfl⟩
theorem st_i1 (h : ov_St a) {j : Int32} (hj : ov_ibb j 6 = true) : ov_ib j (ov_ln (a + 1)) := by rcases h with rfl | rfl | rfl | rfl <;> exact ov_ibk hj
theorem st_i2 (h : ov_St a) {j : Int32} (hj : ov_ibb j 4 = true) : ov_ib j (ov_ln (a + 2)) := by rcases h with rfl | rfl | rfl | rfl <;> exact ov_ibk hj
theorem pl_v0 (h : ov_Pl a) : ov_vv S G a 0 = .int (S a 0) := by rcases h with rfl | rfl <;> rfl
theorem pl_c0 (h : ov_Pl a) : ov_cd a 0 = 0 := by rcases h with rfl | rfl <;> rfl
theorem pl_v1 (h : ov_Pl a) : ov_vv S G a 1 = .int (S a 1) := by rcases h with rfl | rfl <;> rfl
theorem pl_c1 (h : ov_Pl a) : ov_cd a 1 = 0 := by rcases h with rfl | rfl <;> rfl
theorem pl_v2 (h : ov_Pl a) : ov_vv S G a 2 = .int (S a 2) := by rcases h with rfl | rfl <;> rfl
theorem pl_c2 (h : ov_Pl a) : ov_cd a 2 = 0 := by rcases h with rfl | rfl <;> rfl
theorem pl_v3 (h : ov_Pl a) : ov_vv S G a 3 = .int (S a 3) := by rcases h with rfl | rfl <;> rfl
theorem pl_c3 (h : ov_Pl a) : ov_cd a 3 = 0 := by rcases h with rfl | rfl <;> rfl
theorem pl_v10 (h : ov_Pl a) : ov_vv S G a 10 = .int (S a 10) := by rcases h with rfl | rfl <;> rfl
theorem pl_c10 (h : ov_Pl a) : ov_cd a 10 = 0 := by rcases h with rfl | rfl <;> rfl
theorem pl_v11 (h : ov_Pl a) : ov_vv S G a 11 = .int (S a 11) := by rcases h with rfl | rfl <;> rfl
theorem pl_c11 (h : ov_Pl a) : ov_cd a 11 = 0 := by rcases h with rfl | rfl <;> rfl
theorem pl_v4 (h : ov_Pl a) : ov_vv S G a 4 = .ref (a + 1) := by rcases h with rfl | rfl <;> rfl
theorem pl_A1 (h : ov_Pl a) : ov_A 1 (a + 1) := by rcases h with rfl | rfl <;> exact ⟨rfl, by decide, rfl⟩
theorem pl_i1 (h : ov_Pl a) {j : Int32} (hj : ov_ibb j 3 = true) : ov_ib j (ov_ln (a + 1)) := by rcases h with rfl | rfl <;> exact ov_ibk hj
theorem pl_v5 (h : ov_Pl a) : ov_vv S G a 5 = .ref (a + 2) := by rcases h with rfl | rfl <;> rfl
theorem pl_A2 (h : ov_Pl a) : ov_A 1 (a + 2) := by rcases h with rfl | rfl <;> exact ⟨rfl, by decide, rfl⟩
theorem pl_i2 (h : ov_Pl a) {j : Int32} (hj : ov_ibb j 4 = true) : ov_ib j (ov_ln (a + 2)) := by rcases h with rfl | rfl <;> exact ov_ibk hj
theorem pl_v6 (h : ov_Pl a) : ov_vv S G a 6 = .ref (a + 3) := by rcases h with rfl | rfl <;> rfl
theorem pl_A3 (h : ov_Pl a) : ov_A 1 (a + 3) := by rcases h with rfl | rfl <;> exact ⟨rfl, by decide, rfl⟩
theorem pl_i3 (h : ov_Pl a) {j : Int32} (hj : ov_ibb j 6 = true) : ov_ib j (ov_ln (a + 3)) := by rcases h with rfl | rfl <;> exact ov_ibk hj
theorem pl_v7 (h : ov_Pl a) : ov_vv S G a 7 = .ref (a + 4) := by rcases h with rfl | rfl <;> rfl
theorem pl_A4 (h : ov_Pl a) : ov_A 1 (a + 4) := by rcases h with rfl | rfl <;> exact ⟨rfl, by decide, rfl⟩
theorem pl_i4 (h : ov_Pl a) {j : Int32} (hj : ov_ibb j 6 = true) : ov_ib j (ov_ln (a + 4)) := by rcases h with rfl | rfl <;> exact ov_ibk hj
theorem pl_v8 (h : ov_Pl a) : ov_vv S G a 8 = .ref (a + 5) := by rcases h with rfl | rfl <;> rfl
theorem pl_A5 (h : ov_Pl a) : ov_A 1 (a + 5) := by rcases h with rfl | rfl <;> exact ⟨rfl, by decide, rfl⟩
theorem pl_i5 (h : ov_Pl a) {j : Int32} (hj : ov_ibb j 6 = true) : ov_ib j (ov_ln (a + 5)) := by rcases h with rfl | rfl <;> exact ov_ibk hj
theorem pl_v9 (h : ov_Pl a) : ov_vv S G a 9 = .ref (a + 6) := by rcases h with rfl | rfl <;> rfl
theorem pl_A6 (h : ov_Pl a) : ov_A 1 (a + 6) := by rcases h with rfl | rfl <;> exact ⟨rfl, by decide, rfl⟩
theorem pl_i6 (h : ov_Pl a) {j : Int32} (hj : ov_ibb j 6 = true) : ov_ib j (ov_ln (a + 6)) := by rcases h with rfl | rfl <;> exact ov_ibk hj
theorem oO_1 : ov_O 1 0 := ⟨12, rfl, by decide⟩
theorem oO_2 : ov_O 2 1 := ⟨2, rfl, by decide⟩
theorem oA_3 : ov_A 1 3 := ⟨rfl, by decide, rfl⟩
theorem oO_4 : ov_O 4 2 := ⟨12, rfl, by decide⟩
theorem oA_5 : ov_A 1 5 := ⟨rfl, by decide, rfl⟩
theorem oA_6 : ov_A 1 6 := ⟨rfl, by decide, rfl⟩
theorem oA_7 : ov_A 1 7 := ⟨rfl, by decide, rfl⟩
theorem oA_8 : ov_A 1 8 := ⟨rfl, by decide, rfl⟩
theorem oA_9 : ov_A 1 9 := ⟨rfl, by decide, rfl⟩
theorem oA_10 : ov_A 1 10 := ⟨rfl, by decide, rfl⟩
theorem oO_11 : ov_O 11 2 := ⟨12, rfl, by decide⟩
theorem oA_12 : ov_A 1 12 := ⟨rfl, by decide, rfl⟩
theorem oA_13 : ov_A 1 13 := ⟨rfl, by decide, rfl⟩
theorem oA_14 : ov_A 1 14 := ⟨rfl, by decide, rfl⟩
theorem oA_15 : ov_A 1 15 := ⟨rfl, by decide, rfl⟩
theorem oA_16 : ov_A 1 16 := ⟨rfl, by decide, rfl⟩
theorem oA_17 : ov_A 1 17 := ⟨rfl, by decide, rfl⟩
theorem oO_18 : ov_O 18 3 := ⟨5, rfl, by decide⟩
theorem oA_19 : ov_A 1 19 := ⟨rfl, by decide, rfl⟩
theorem oA_20 : ov_A 1 20 := ⟨rfl, by decide, rfl⟩
theorem oO_21 : ov_O 21 3 := ⟨5, rfl, by decide⟩
theorem oA_22 : ov_A 1 22 := ⟨rfl, by decide, rfl⟩
theorem oA_23 : ov_A 1 23 := ⟨rfl, by decide, rfl⟩
theorem oO_24 : ov_O 24 4 := ⟨4, rfl, by decide⟩
theorem oA_25 : ov_A 1 25 := ⟨rfl, by decide, rfl⟩
theorem oA_26 : ov_A 1 26 := ⟨rfl, by decide, rfl⟩
theorem oA_27 : ov_A 1 27 := ⟨rfl, by decide, rfl⟩
theorem oO_28 : ov_O 28 5 := ⟨3, rfl, by decide⟩
theorem oA_29 : ov_A 1 29 := ⟨rfl, by decide, rfl⟩
theorem oA_30 : ov_A 1 30 := ⟨rfl, by decide, rfl⟩
theorem oO_31 : ov_O 31 6 := ⟨4, rfl, by decide⟩
theorem oO_32 : ov_O 32 7 := ⟨7, rfl, by decide⟩
theorem oA_33 : ov_A 1 33 := ⟨rfl, by decide, rfl⟩
theorem oA_34 : ov_A 1 34 := ⟨rfl, by decide, rfl⟩
theorem oO_36 : ov_O 36 3 := ⟨5, rfl, by decide⟩
theorem oA_37 : ov_A 1 37 := ⟨rfl, by decide, rfl⟩
theorem oA_38 : ov_A 1 38 := ⟨rfl, by decide, rfl⟩
theorem oO_39 : ov_O 39 3 := ⟨5, rfl, by decide⟩
theorem oA_40 : ov_A 1 40 := ⟨rfl, by decide, rfl⟩
theorem oA_41 : ov_A 1 41 := ⟨rfl, by decide, rfl⟩
theorem oO_42 : ov_O 42 8 := ⟨43, rfl, by decide⟩
theorem oA_43 : ov_A 1 43 := ⟨rfl, by decide, rfl⟩
theorem oA_44 : ov_A 1 44 := ⟨rfl, by decide, rfl⟩
theorem oA_45 : ov_A 1 45 := ⟨rfl, by decide, rfl⟩
theorem oA_46 : ov_A 1 46 := ⟨rfl, by decide, rfl⟩
theorem oA_47 : ov_A 1 47 := ⟨rfl, by decide, rfl⟩
theorem oA_48 : ov_A 1 48 := ⟨rfl, by decide, rfl⟩
theorem oA_49 : ov_A 1 49 := ⟨rfl, by decide, rfl⟩
theorem oA_50 : ov_A 1 50 := ⟨rfl, by decide, rfl⟩
theorem oA_51 : ov_A 1 51 := ⟨rfl, by decide, rfl⟩
theorem oA_52 : ov_A 1 52 := ⟨rfl, by decide, rfl⟩
theorem oA_53 : ov_A 1 53 := ⟨rfl, by decide, rfl⟩
theorem oA_54 : ov_A 1 54 := ⟨rfl, by decide, rfl⟩
theorem oA_55 : ov_A 1 55 := ⟨rfl, by decide, rfl⟩
theorem oA_56 : ov_A 1 56 := ⟨rfl, by decide, rfl⟩
theorem oA_57 : ov_A 1 57 := ⟨rfl, by decide, rfl⟩
theorem oA_58 : ov_A 1 58 := ⟨rfl, by decide, rfl⟩
theorem oA_59 : ov_A 1 59 := ⟨rfl, by decide, rfl⟩
theorem oA_60 : ov_A 2 60 := ⟨rfl, by decide, rfl⟩
theorem oA_61 : ov_A 1 61 := ⟨rfl, by decide, rfl⟩
theorem oA_62 : ov_A 1 62 := ⟨rfl, by decide, rfl⟩
theorem oA_63 : ov_A 1 63 := ⟨rfl, by decide, rfl⟩
theorem oA_64 : ov_A 1 64 := ⟨rfl, by decide, rfl⟩
theorem oA_65 : ov_A 1 65 := ⟨rfl, by decide, rfl⟩
theorem oA_66 : ov_A 1 66 := ⟨rfl, by decide, rfl⟩
theorem ev_iret {v : Int32} (hd : decode (ov_byt M) pc = .ok (.ireturn, 1)) (hr : ov_rt M = some .int) (hP : P (some (.int v)) S G) : ov_J L d M pc lv [.int v] S G P := ev_ret (fun lv' => by
  unfold ov_ret
  dsimp only
  rw [hd, hr]
  rfl) hP
theorem ev_zret {v : Int32} (hd : decode (ov_byt M) pc = .ok (.ireturn, 1)) (hr : ov_rt M = some .boolean) (hv : v = 0 ∨ v = 1) (hP : P (some (.int v)) S G) : ov_J L d M pc lv [.int v] S G P := ev_ret (fun lv' => by
  unfold ov_ret
  dsimp only
  rw [hd, hr]
  show (if v = 0 ∨ v = 1 then some (some (Value.int v)) else none) = _
  rw [if_pos hv]) hP
theorem ev_lret {v : Int64} (hd : decode (ov_byt M) pc = .ok (.lreturn, 1)) (hr : ov_rt M = some .long) (hP : P (some (.long v)) S G) : ov_J L d M pc lv [.long v] S G P := ev_ret (fun lv' => by
  unfold ov_ret
  dsimp only
  rw [hd, hr]
  rfl) hP
theorem ev_vret (hd : decode (ov_byt M) pc = .ok (.return_, 1)) (hr : ov_rt M = none) (hP : P none S G) : ov_J L d M pc lv [] S G P := ev_ret (fun lv' => by
  unfold ov_ret
  dsimp only
  rw [hd, hr]
  rfl) hP
theorem ev_csi {y n dc : Nat} {as rest : List Value} {r : Int32} (hc : ov_CL M pc 0 y) (hn : ov_np y = n) (hst : st = as.reverse ++ rest) (hl : as.length = n) (hm : Nat.ble (ov_as as).length (ov_mx y) = true) (hr : Nat.ble (rest.map fun v => v.category).sum 8 = true) (hd : dc ≤ d) (hC : ov_R L dc y as S G (some (.int r)) S1 G1) (kk : ov_J L d M (pc + 3) lv (.int r :: rest) S1 G1 P) : ov_J L d M pc lv st S G P := ev_cs hc hn hst hl hm hr hd hC kk
theorem ev_csl {y n dc : Nat} {as rest : List Value} {r : Int64} (hc : ov_CL M pc 0 y) (hn : ov_np y = n) (hst : st = as.reverse ++ rest) (hl : as.length = n) (hm : Nat.ble (ov_as as).length (ov_mx y) = true) (hr : Nat.ble (rest.map fun v => v.category).sum 8 = true) (hd : dc ≤ d) (hC : ov_R L dc y as S G (some (.long r)) S1 G1) (kk : ov_J L d M (pc + 3) lv (.long r :: rest) S1 G1 P) : ov_J L d M pc lv st S G P := ev_cs hc hn hst hl hm hr hd hC kk
theorem ev_csv {y n dc : Nat} {as rest : List Value} (hc : ov_CL M pc 0 y) (hn : ov_np y = n) (hst : st = as.reverse ++ rest) (hl : as.length = n) (hm : Nat.ble (ov_as as).length (ov_mx y) = true) (hr : Nat.ble (rest.map fun v => v.category).sum 8 = true) (hd : dc ≤ d) (hC : ov_R L dc y as S G none S1 G1) (kk : ov_J L d M (pc + 3) lv rest S1 G1 P) : ov_J L d M pc lv st S G P := ev_cs hc hn hst hl hm hr hd hC kk
theorem ev_cvi {y n dc a c : Nat} {as rest : List Value} {r : Int32} (hc : ov_CL M pc 1 y) (hn : ov_np y = n) (hst : st = as.reverse ++ .ref a :: rest) (hl : as.length = n) (ho : ov_O a c) (hoc : Nat.beq (ov_oc y) (c + 1) = true) (hm : Nat.ble (ov_as as).length (ov_mx y - 1) = true) (h0 : Nat.blt 0 (ov_mx y) = true) (hr : Nat.ble (rest.map fun v => v.category).sum 8 = true) (hd : dc ≤ d) (hC : ov_R L dc y (.ref a :: as) S G (some (.int r)) S1 G1) (kk : ov_J L d M (pc + 3) lv (.int r :: rest) S1 G1 P) : ov_J L d M pc lv st S G P := ev_cv hc hn hst hl ho hoc hm h0 hr hd hC kk
theorem ev_cvl {y n dc a c : Nat} {as rest : List Value} {r : Int64} (hc : ov_CL M pc 1 y) (hn : ov_np y = n) (hst : st = as.reverse ++ .ref a :: rest) (hl : as.length = n) (ho : ov_O a c) (hoc : Nat.beq (ov_oc y) (c + 1) = true) (hm : Nat.ble (ov_as as).length (ov_mx y - 1) = true) (h0 : Nat.blt 0 (ov_mx y) = true) (hr : Nat.ble (rest.map fun v => v.category).sum 8 = true) (hd : dc ≤ d) (hC : ov_R L dc y (.ref a :: as) S G (some (.long r)) S1 G1) (kk : ov_J L d M (pc + 3) lv (.long r :: rest) S1 G1 P) : ov_J L d M pc lv st S G P := ev_cv hc hn hst hl ho hoc hm h0 hr hd hC kk
theorem ev_cvv {y n dc a c : Nat} {as rest : List Value} (hc : ov_CL M pc 1 y) (hn : ov_np y = n) (hst : st = as.reverse ++ .ref a :: rest) (hl : as.length = n) (ho : ov_O a c) (hoc : Nat.beq (ov_oc y) (c + 1) = true) (hm : Nat.ble (ov_as as).length (ov_mx y - 1) = true) (h0 : Nat.blt 0 (ov_mx y) = true) (hr : Nat.ble (rest.map fun v => v.category).sum 8 = true) (hd : dc ≤ d) (hC : ov_R L dc y (.ref a :: as) S G none S1 G1) (kk : ov_J L d M (pc + 3) lv rest S1 G1 P) : ov_J L d M pc lv st S G P := ev_cv hc hn hst hl ho hoc hm h0 hr hd hC kk
-- switches at a known number
theorem ev_tsc {dd lo hi : Int} {offs : Array Int} {ln : Nat} {x y : Int32} {off : Int} {t : Nat} (hx : x = y) (hd : decode (ov_byt M) pc = .ok (.tableswitch dd lo hi offs, ln)) (h : if y.toInt < lo ∨ hi < y.toInt then off = dd else offs[(y.toInt - lo).toNat]? = some off) (ht : (pc : Int) + off = (t : Int)) (kk : ov_J L d M t lv st S G P) : ov_J L d M pc lv (.int x :: st) S G P := by
  subst hx
  exact ev_ts hd h ht kk
theorem ev_tsd {dd lo hi : Int} {offs : Array Int} {ln : Nat} {x : Int32} {t : Nat} (hx : x.toInt < lo ∨ hi < x.toInt) (hd : decode (ov_byt M) pc = .ok (.tableswitch dd lo hi offs, ln)) (ht : (pc : Int) + dd = (t : Int)) (kk : ov_J L d M t lv st S G P) : ov_J L d M pc lv (.int x :: st) S G P := ev_ts hd (by rw [if_pos hx]) ht kk
theorem ov_ni {x y : Int32} (h : ¬ x = y) : x.toInt ≠ y.toInt := fun q => h (Int32.toInt_inj.mp q)
-- Math and copies
theorem ev_mth {i op pc' w : Nat} {st' : List Value} (hd : decode (ov_byt M) pc = .ok (.invokestatic i, 3)) (hf : ov_find ov_xt (i * 32 + ov_oc M) = some (op, w)) (h : ∀ lv', ov_mth op pc lv' st (ov_mm L S G) = some (pc', lv', st', ov_mm L S G)) (kk : ov_J L d M pc' lv st' S G P) : ov_J L d M pc lv st S G P := ev_i hd rfl (fun lv' => by
  show ov_sta _ _ _ _ _ _ = _
  unfold ov_sta
  rw [hf]
  exact h lv') kk
def ov_XL (M pc op : Nat) : Prop := ∃ (i w : Nat), decode (ov_byt M) pc = .ok (.invokestatic i, 3) ∧ ov_find ov_xt (i * 32 + ov_oc M) = some (op, w)
theorem ev_mabs {x : Int32} (hc : ov_XL M pc 0) (hr : Nat.ble (st.map fun v => v.category).sum 8 = true) (kk : ov_J L d M (pc + 3) lv (.int (if 0 ≤ x then x else 0 - x) :: st) S G P) : ov_J L d M pc lv (.int x :: st) S G P := by
  obtain ⟨i, w, hd, hf⟩ := hc
  refine ev_mth hd hf (fun lv' => ?_) kk
  simp only [ov_mth]
  rw [if_neg (Nat.not_lt.mpr (Nat.le_of_ble_eq_true hr))]
theorem ev_mmax {x y : Int32} (hc : ov_XL M pc 1) (hr : Nat.ble (st.map fun v => v.category).sum 8 = true) (kk : ov_J L d M (pc + 3) lv (.int (if x < y then y else x) :: st) S G P) : ov_J L d M pc lv (.int y :: .int x :: st) S G P := by
  obtain ⟨i, w, hd, hf⟩ := hc
  refine ev_mth hd hf (fun lv' => ?_) kk
  simp only [ov_mth]
  rw [if_neg (Nat.not_lt.mpr (Nat.le_of_ble_eq_true hr))]
theorem ev_mabsl {x : Int64} (hc : ov_XL M pc 2) (hr : Nat.ble (st.map fun v => v.category).sum 8 = true) (kk : ov_J L d M (pc + 3) lv (.long (if 0 < x then x else -x) :: st) S G P) : ov_J L d M pc lv (.long x :: st) S G P := by
  obtain ⟨i, w, hd, hf⟩ := hc
  refine ev_mth hd hf (fun lv' => ?_) kk
  simp only [ov_mth]
  rw [if_neg (Nat.not_lt.mpr (Nat.le_of_ble_eq_true hr))]
def ov_cp (S : ov_S) (a0 sp a dp n : Nat) : ov_S := fun i j => if i = a ∧ dp ≤ j ∧ j < dp + n then S a0 (sp + (j - dp)) else S i j
def ov_CY (M pc : Nat) : Prop := ∃ (i w : Nat), decode (ov_byt M) pc = .ok (.invokestatic i, 3) ∧ ov_find ov_xt (i * 32 + ov_oc M) = none ∧ ov_find ov_ct (i * 32 + ov_oc M) = some w
def ov_cyb (sp dp n : Int32) (n0 n1 : Nat) : Bool := !(decide (n < 0) || decide (dp < 0) || decide (sp < 0) || decide (n0 < sp.toNatClampNeg + n.toNatClampNeg) || decide (n1 < dp.toNatClampNeg + n.toNatClampNeg))
theorem ev_cy {a0 a1 : Nat} {sp dp n : Int32} (hc : ov_CY M pc) (h0 : ov_A 1 a0) (h1 : ov_A 1 a1) (hb : ov_cyb sp dp n (ov_ln a0) (ov_ln a1) = true) (hr : Nat.ble (st.map fun v => v.category).sum 8 = true) (kk : ov_J L d M (pc + 3) lv st (ov_cp S a0 sp.toNatClampNeg a1 dp.toNatClampNeg n.toNatClampNeg) G P) : ov_J L d M pc lv (.int n :: .int dp :: .ref a1 :: .int sp :: .ref a0 :: st) S G P := by
  obtain ⟨i, w, hd, hf, hf2⟩ := hc
  refine ev_i hd rfl (fun lv' => ?_) kk
  show ov_sta _ _ _ _ _ _ = _
  unfold ov_sta
  rw [hf]
  show ov_cy _ _ _ _ _ _ = _
  cases a0 with
  | zero => exact absurd rfl h0.2.1
  | succ i0 =>
    cases a1 with
    | zero => exact absurd rfl h1.2.1
    | succ i1 =>
      unfold ov_cy
      rw [hf2]
      show (match (ov_mm L S G).1[i0 + 1]?, (ov_mm L S G).1[i1 + 1]? with
        | some (1, _, n0), some (1, _, n1) => if n < 0 ∨ dp < 0 ∨ sp < 0 ∨ n0 < sp.toNatClampNeg + n.toNatClampNeg ∨ n1 < dp.toNatClampNeg + n.toNatClampNeg ∨ 8 < (st.map fun (v : Value) => v.category).sum then none
          else some (pc + 3, lv', st, ov_rp (ov_mm L S G) (i1 + 1) (va_cpy ((ov_mm L S G).2 (i0 + 1)) ((ov_mm L S G).2 (i1 + 1)) sp.toNatClampNeg dp.toNatClampNeg n.toNatClampNeg))
        | _, _ => none) = _
      rw [show (ov_mm L S G).1[i0 + 1]? = some (1, 0, ov_ln (i0 + 1)) from ov_shO h0.1 h0.2.1, show (ov_mm L S G).1[i1 + 1]? = some (1, 0, ov_ln (i1 + 1)) from ov_shO h1.1 h1.2.1]
      show (if n < 0 ∨ dp < 0 ∨ sp < 0 ∨ ov_ln (i0 + 1) < sp.toNatClampNeg + n.toNatClampNeg ∨ ov_ln (i1 + 1) < dp.toNatClampNeg + n.toNatClampNeg ∨ 8 < (st.map fun (v : Value) => v.category).sum then none
        else some (pc + 3, lv', st, ov_rp (ov_mm L S G) (i1 + 1) (va_cpy ((ov_mm L S G).2 (i0 + 1)) ((ov_mm L S G).2 (i1 + 1)) sp.toNatClampNeg dp.toNatClampNeg n.toNatClampNeg))) = _
      have hr2 := Nat.le_of_ble_eq_true hr
      unfold ov_cyb at hb
      simp only [Bool.not_eq_true', Bool.or_eq_false_iff, decide_eq_false_iff_not] at hb
      obtain ⟨⟨⟨⟨g1, g2⟩, g3⟩, g4⟩, g5⟩ := hb
      rw [if_neg (by
        rintro (q | q | q | q | q | q)
        · exact g1 q
        · exact g2 q
        · exact g3 q
        · exact g4 q
        · exact g5 q
        · omega)]
      congr 4
      unfold ov_rp ov_mm
      congr 1
      funext k j
      dsimp only
      by_cases hk : k = i1 + 1
      · subst hk
        rw [if_pos rfl]
        unfold va_cpy
        rw [h1.vv j]
        unfold ov_cp
        by_cases hj : dp.toNatClampNeg ≤ j ∧ j < dp.toNatClampNeg + n.toNatClampNeg
        · rw [if_pos hj, h0.vv, h1.vv, if_pos ⟨rfl, hj⟩]
        · rw [if_neg hj, h1.vv, if_neg (fun q => hj q.2)]
      · rw [if_neg hk]
        unfold ov_vv ov_cp
        rw [if_neg (fun q => hk q.1)]
end ov_E
