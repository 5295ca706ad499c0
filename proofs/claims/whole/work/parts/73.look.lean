-- LOOKING AT A PLAY AND AT A PAGE
theorem gd_in {n k : Nat} {c : Int32} (hc : c = nI n) (hk : k < n) (hn : n < 2 ^ 31) : (if nI k < 0 then some (0 : Int32) else (if c ≤ nI k then some (0 : Int32) else some (1 : Int32))) = some 1 := by
  rw [if_neg (nI_l0 (by omega)), hc, if_neg (nle_nI hk hn)]
theorem gd_out {n : Nat} {c x : Int32} (hc : c = nI n) (hx : x < 0 ∨ nI n ≤ x) : (if x < 0 then some (0 : Int32) else (if c ≤ x then some (0 : Int32) else some (1 : Int32))) = some 0 := by
  by_cases h : x < 0
  · rw [if_pos h]
  · rw [if_neg h, hc, if_pos (hx.resolve_left h)]
theorem s144i {k n : Nat} {c : Int32} (hc : c = nI n) (hk : k < n) (hn : n < 2 ^ 30) : f144 (nI k).toInt64 (0 : Int64) (c - 1).toInt64 = some 1 := by
  rw [show (0 : Int64) = (0 : Int32).toInt64 from rfl, s144, hc, show (1 : Int32) = nI 1 from rfl, pk_sub (by omega)]
  rw [if_pos ⟨nI_pos' (by omega), le_nI (by omega) (by omega)⟩]
theorem s144o {n : Nat} {c x : Int32} (hc : c = nI n) (hn : n < 2 ^ 30) (hx : x < 0 ∨ nI n ≤ x) : f144 x.toInt64 (0 : Int64) (c - 1).toInt64 = some 0 := by
  rw [show (0 : Int64) = (0 : Int32).toInt64 from rfl, s144, hc]
  rw [if_neg]
  rintro ⟨h1, h2⟩
  rcases hx with hx | hx
  · exact absurd h1 (Int32.not_le.mpr hx)
  · have a := Int32.le_iff_toInt_le.mp hx
    have b := Int32.le_iff_toInt_le.mp h2
    rw [nI_toInt (by omega)] at a
    rw [show (1 : Int32) = nI 1 from rfl, pk_sub_toInt (by omega) (by omega)] at b
    omega
section
variable {S : ov_S} {P : pl_T}
theorem s29 (h : pl_R S P) {k : Nat} (hk : k < pN P) : f29 4 S (nI k) = some 1 := gd_in (r_cN h) hk (by have := r_N6 h; omega)
theorem s29n (h : pl_R S P) {x : Int32} (hx : x < 0 ∨ nI (pN P) ≤ x) : f29 4 S x = some 0 := gd_out (r_cN h) hx
theorem s7 (h : pl_R S P) {k : Nat} (hk : k < pF P) : f7 4 S (nI k) = some 1 := gd_in (r_cF h) hk (by have := r_F4 h; omega)
theorem s7n (h : pl_R S P) {x : Int32} (hx : x < 0 ∨ nI (pF P) ≤ x) : f7 4 S x = some 0 := gd_out (r_cF h) hx
theorem s45 (h : pl_R S P) {k : Nat} (hk : k < pL P) : f45 4 S (nI k) = some 1 := gd_in (r_cL h) hk (by have := r_L6 h; omega)
theorem s45n (h : pl_R S P) {x : Int32} (hx : x < 0 ∨ nI (pL P) ≤ x) : f45 4 S x = some 0 := gd_out (r_cL h) hx
theorem s58 (h : pl_R S P) {k : Nat} (hk : k < pD P) : f58 4 S (nI k) = some 1 := gd_in (r_cD h) hk (by have := r_D3 h; omega)
theorem s58n (h : pl_R S P) {x : Int32} (hx : x < 0 ∨ nI (pD P) ≤ x) : f58 4 S x = some 0 := gd_out (r_cD h) hx
theorem s175 (h : pl_R S P) {k : Nat} (hk : k < pN P) : f175 S (nI k) = some 0 := by
  have := r_N6 h
  unfold f175
  rw [s144i (r_mN h) hk (by omega)]
  rfl
theorem s175n (h : pl_R S P) {x : Int32} (hx : x < 0 ∨ nI (pN P) ≤ x) : f175 S x = some 1 := by
  have := r_N6 h
  unfold f175
  rw [s144o (r_mN h) (by omega) hx]
  rfl
theorem s172 (h : pl_R S P) {k : Nat} (hk : k < pD P) : f172 S (nI k) = some 0 := by
  have := r_D3 h
  unfold f172
  rw [s144i (r_mD h) hk (by omega)]
  rfl
theorem s172n (h : pl_R S P) {x : Int32} (hx : x < 0 ∨ nI (pD P) ≤ x) : f172 S x = some 1 := by
  have := r_D3 h
  unfold f172
  rw [s144o (r_mD h) (by omega) hx]
  rfl
theorem s193 {c : Nat} (hc : c < 18) : f193 (nI c) = some 0 := by
  unfold f193
  rw [show (17 : Int64) = ((18 : Int32) - 1).toInt64 from rfl, s144i (c := 18) (n := 18) rfl hc (by omega)]
  rfl
theorem s193n {x : Int32} (hx : x < 0 ∨ nI 18 ≤ x) : f193 x = some 1 := by
  unfold f193
  rw [show (17 : Int64) = ((18 : Int32) - 1).toInt64 from rfl, s144o (c := 18) (n := 18) rfl (by omega) hx]
  rfl
theorem s49o {x : Int32} (hx : x < 0 ∨ nI 18 ≤ x) : f49 x = some 0 := gd_out (n := 18) rfl hx
theorem s49i {c : Nat} (hc : c < 18) : f49 (nI c) = some 1 := gd_in (n := 18) rfl hc (by omega)
theorem s44 (h : pl_R S P) {l : Nat} (hl : l < pL P) : f44 4 S (nI l) = some (nI (sy P l)) := by
  have := r_L6 h
  unfold f44
  rw [s45 h hl, Option.bind_some, if_neg (by decide), ov_ck_t (ib_nI (by omega) (by omega)), nI_clamp (by omega), r_cs h hl]
theorem s46 (h : pl_R S P) {l : Nat} (hl : l < pL P) : f46 4 S (nI l) = some (nI (hr P l)) := by
  have := r_L6 h
  unfold f46
  rw [s45 h hl, Option.bind_some, if_neg (by decide), ov_ck_t (ib_nI (by omega) (by omega)), nI_clamp (by omega), r_ch h hl]
theorem s59 (h : pl_R S P) {d : Nat} (hd : d < pD P) : f59 4 S (nI d) = some (nI (dr P d)) := by
  have := r_D3 h
  unfold f59
  rw [s58 h hd, Option.bind_some, if_neg (by decide), ov_ck_t (ib_nI (by omega) (by omega)), nI_clamp (by omega), r_cd h hd]
theorem s59n (h : pl_R S P) {x : Int32} (hx : x < 0 ∨ nI (pD P) ≤ x) : f59 4 S x = some (-9) := by
  unfold f59
  rw [s58n h hx, Option.bind_some, if_pos rfl]
theorem s63 (h : pl_R S P) {k : Nat} (hk : k < pN P) : f63 4 S (nI k) = some (nI (wt P k)) := by
  have := r_N6 h
  unfold f63
  rw [s29 h hk, Option.bind_some, if_neg (by decide), ov_ck_t (ib_nI (by omega) (by omega)), nI_clamp (by omega), r_cw h hk]
theorem s64 (h : pl_R S P) {k : Nat} (hk : k < pN P) : f64 4 S (nI k) = some (nI (kd P k)) := by
  have := r_N6 h
  unfold f64
  rw [s29 h hk, Option.bind_some, if_neg (by decide), ov_ck_t (ib_nI (by omega) (by omega)), nI_clamp (by omega), r_ck h hk]
variable {a : Nat} {g : pg_g}
theorem s35 (h : pl_R S P) (he : pg_E S a g (pF P)) {k : Nat} (hk : k < pN P) : f35 a S (nI k) = some (g k) := by
  have := r_N6 h
  unfold f35
  rw [s29 h hk, Option.bind_some, if_neg (by decide), ov_ck_t (ib_nI (by omega) (by omega)), nI_clamp (by omega), he.1 k (by omega)]
theorem s34 (h : pl_R S P) (he : pg_E S a g (pF P)) {k : Nat} (hk : k < pN P) : f34 a S (nI k) = some (if g k = -9 then 0 else 1) := by
  unfold f34
  rw [s35 h he hk, Option.bind_some]
  split <;> rfl
theorem s61 (h : pl_R S P) (he : pg_E S a g (pF P)) {k : Nat} (hk : k < pF P) : f61 a S (nI k) = some (g (7 + k)) := by
  have := r_F4 h
  unfold f61
  rw [s7 h hk, Option.bind_some, if_neg (by decide), ov_ck_t (ib_nI (by omega) (by omega)), nI_clamp (by omega), he.2.1 k (by omega), if_pos hk]
/-- loops that gather a mask, bit by bit -/
theorem lp_mask {β : Type} {body : Int32 → Int32 → Option ((Int32 × Int32) ⊕ Int32)} {n : Nat} (Q : Nat → Bool) {kk : Int32 → Option β} {r : Option β} (hn : n < 2000) (hs : ∀ k m, k < n → m = mk k Q → body (nI m) (nI k) = some (.inl (nI (m ||| (if Q k then 2 ^ k else 0)), nI (k + 1)))) (he : ∀ m, m = mk n Q → body (nI m) (nI n) = some (.inr (nI m))) (hk : kk (nI (mk n Q)) = r) : (ov_lp (fun s => body s.1 s.2) 2000 ((0 : Int32), (0 : Int32))).bind kk = r := by
  refine lp_bind (fun k => (nI (mk k Q), nI k)) n rfl (fun k hk => ?_) ?_ hn hk
  · exact hs k _ hk rfl
  · exact he _ rfl
theorem or_f {m k : Nat} {b : Bool} (h : b = false) : some (Sum.inl (nI m, nI k + 1) : (Int32 × Int32) ⊕ Int32) = some (Sum.inl (nI (m ||| (if b then 2 ^ k else 0)), nI (k + 1))) := by
  rw [h, nI_1]
  simp
theorem or_t {m k : Nat} {b : Bool} (h : b = true) : some (Sum.inl (nI (m ||| 2 ^ k), nI k + 1) : (Int32 × Int32) ⊕ Int32) = some (Sum.inl (nI (m ||| (if b then 2 ^ k else 0)), nI (k + 1))) := by
  rw [h, nI_1, if_pos rfl]
theorem or_f0 {m k : Nat} {b : Bool} (h : b = false) : some (Sum.inl (nI m ||| 0, nI k + 1) : (Int32 × Int32) ⊕ Int32) = some (Sum.inl (nI (m ||| (if b then 2 ^ k else 0)), nI (k + 1))) := by
  rw [h, nI_1, show (0 : Int32) = nI 0 from rfl, nI_or]
  rfl
theorem or_t1 {m k : Nat} {b : Bool} (hk : k < 31) (h : b = true) : some (Sum.inl (nI m ||| (1 : Int32) <<< (nI k &&& 31), nI k + 1) : (Int32 × Int32) ⊕ Int32) = some (Sum.inl (nI (m ||| (if b then 2 ^ k else 0)), nI (k + 1))) := by
  rw [h, nI_1, nI_sh1 k hk, nI_or, if_pos rfl]
def onm (P : pl_T) (g : pg_g) : Nat := mk (pN P) (fun k => decide (g k ≠ -9))
theorem s33 (h : pl_R S P) (he : pg_E S a g (pF P)) : f33 a S = some (nI (onm P g)) := by
  have h6 := r_N6 h
  unfold f33
  refine lp_mask (body := b33_4 a S) (n := pN P) (fun k => decide (g k ≠ -9)) (by omega) (fun k m hk hm => ?_) (fun m hm => ?_) rfl
  · unfold b33_4
    rw [r_cN h, if_neg (nle_nI hk (by omega)), s34 h he hk, Option.bind_some]
    by_cases e : g k = -9
    · rw [if_pos e, if_pos rfl]
      exact or_f (decide_eq_false (fun q => q e))
    · rw [if_neg e, if_neg (by decide), s27 (by omega)]
      exact or_t (decide_eq_true e)
  · unfold b33_4
    rw [r_cN h, if_pos (le_nI (Nat.le_refl _) (by omega))]
theorem s160 {p : Nat} (h : pl_R S P) (hm : pg_M S p g) : f160 p S = some (nI (onm P g)) := by
  have h6 := r_N6 h
  unfold f160
  refine lp_mask (body := b160_4 p S) (n := pN P) (fun k => decide (g k ≠ -9)) (by omega) (fun k m hk hmm => ?_) (fun m hmm => ?_) rfl
  · unfold b160_4
    rw [r_mN h, if_neg (nle_nI hk (by omega)), show (0 : Int32) = nI 0 from rfl, nI_add, Nat.zero_add, ov_ck_t (ib_nI (by rw [hm.1]; omega) (by rw [hm.1]; omega)), nI_clamp (by omega), hm.2 k (by omega)]
    by_cases e : g k = -9
    · rw [if_pos e]
      exact or_f0 (decide_eq_false (fun q => q e))
    · rw [if_neg e]
      exact or_t1 (by omega) (decide_eq_true e)
  · unfold b160_4
    rw [r_mN h, if_pos (le_nI (Nat.le_refl _) (by omega))]
end
-- between two cells
def bwi (c d : Nat) : Bool := decide (f166 (nI c) (nI d) ≠ some (-9))
def bwm (c d : Nat) : Nat := match f166 (nI c) (nI d) with | some x => x.toNatClampNeg | none => 0
set_option maxRecDepth 10000 in
theorem bw_48 : ∀ c, c < 18 → ∀ d, d < 18 → f48 (nI c) (nI d) = f166 (nI c) (nI d) := by decide +kernel
set_option maxRecDepth 10000 in
theorem bw_166 : ∀ c, c < 18 → ∀ d, d < 18 → f166 (nI c) (nI d) = some (if bwi c d then nI (bwm c d) else -9) ∧ bwm c d < 2 ^ 18 := by decide +kernel
theorem s48n {x : Int32} : f48 (-9) x = some (-9) := by
  unfold f48
  rw [s49n (by decide)]
  rfl
theorem s48n2 {c : Nat} (hc : c < 18) : f48 (nI c) (-9) = some (-9) := by
  unfold f48
  rw [s49i hc, Option.bind_some, if_neg (by decide), s49n (by decide)]
  rfl
