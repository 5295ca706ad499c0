-- CALLS: place
theorem pu_same {g : pg_g} {k : Nat} {x y : Int32} : pu (pu g k x) k y = pu g k y := funext fun j => by
  unfold pu
  by_cases e : j = k
  · rw [if_pos e, if_pos e]
  · rw [if_neg e, if_neg e, if_neg e]
theorem pu_self {g : pg_g} {k : Nat} {x : Int32} (h : g k = x) : pu g k x = g := funext fun j => by
  unfold pu
  by_cases e : j = k
  · rw [if_pos e, e, h]
  · rw [if_neg e]
theorem pcn_end {m n : Nat} (h : ∀ i, n ≤ i → m.testBit i = false) : ∀ j, n ≤ j → pcn m j = pcn m n
  | 0, hj => by rw [show n = 0 by omega]
  | j + 1, hj => by
    by_cases e : n = j + 1
    · rw [e]
    · show pcn m j + (if m.testBit j then 1 else 0) = pcn m n
      rw [pcn_end h j (by omega), h j (by omega)]
      rfl
def lm (P : pl_T) (k : Nat) : Nat := mk (pL P) (fun l => decide (sy P l = k) || decide (hr P l = k))
def hf (P : pl_T) (g : pg_g) (k c : Nat) : Nat := pc (hdm P (pu g k (nI c)) &&& lm P k)
def plu (o : Option (Nat × Nat)) (c h : Nat) : Option (Nat × Nat) := match o with
  | none => some (c, h)
  | some (b, m) => if h ≤ m then some (b, m) else some (c, h)
def plr (A : Nat → Bool) (H : Nat → Nat) : Nat → Option (Nat × Nat) → Option (Nat × Nat)
  | 0, o => o
  | n + 1, o => if A n then plu (plr A H n o) n (H n) else plr A H n o
def plt (A : Nat → Nat → Bool) (H : Nat → Nat) : Nat → Option (Nat × Nat)
  | 0 => none
  | d + 1 => plr (A d) H 18 (plt A H d)
def pr1 (c : Nat) (o : Option (Nat × Nat)) : Int32 × Int32 := match o with
  | none => (nI c, -1)
  | some (b, m) => (nI b, nI m)
def pr2 (o : Option (Nat × Nat)) : Int32 × Int32 := match o with
  | none => (-9, -9)
  | some (b, m) => (nI b, nI m)
def pl_ok (H : Nat → Nat) (Q : Nat → Prop) (o : Option (Nat × Nat)) : Prop := ∀ b m, o = some (b, m) → m = H b ∧ Q b
theorem plu_ok {H : Nat → Nat} {Q : Nat → Prop} {o : Option (Nat × Nat)} {c : Nat} (h : pl_ok H Q o) (q : Q c) : pl_ok H Q (plu o c (H c)) ∧ ∃ r, plu o c (H c) = some r := by
  cases o with
  | none => exact ⟨fun b m e => by cases e; exact ⟨rfl, q⟩, _, rfl⟩
  | some r =>
    obtain ⟨b, m⟩ := r
    by_cases z : H c ≤ m
    · have : plu (some (b, m)) c (H c) = some (b, m) := if_pos z
      rw [this]
      exact ⟨h, _, rfl⟩
    · have : plu (some (b, m)) c (H c) = some (c, H c) := if_neg z
      rw [this]
      exact ⟨fun b m e => by cases e; exact ⟨rfl, q⟩, _, rfl⟩
theorem plr_ok {A : Nat → Bool} {H : Nat → Nat} {Q : Nat → Prop} {o : Option (Nat × Nat)} (h : pl_ok H Q o) : ∀ n, (∀ c, c < n → A c = true → Q c) → pl_ok H Q (plr A H n o) ∧ ((∃ r, o = some r) → ∃ r, plr A H n o = some r) ∧ ∀ c, c < n → A c = true → ∃ r, plr A H n o = some r
  | 0, _ => ⟨h, fun q => q, fun c hc => absurd hc (Nat.not_lt_zero _)⟩
  | n + 1, hq => by
    obtain ⟨h1, h2, h3⟩ := plr_ok (A := A) (H := H) h n (fun c hc => hq c (by omega))
    unfold plr
    by_cases t : A n = true
    · rw [if_pos t]
      obtain ⟨w1, w2⟩ := plu_ok h1 (hq n (by omega) t)
      exact ⟨w1, fun _ => w2, fun _ _ _ => w2⟩
    · rw [if_neg t]
      refine ⟨h1, h2, fun c hc a => h3 c ?_ a⟩
      by_cases e : c = n
      · rw [e] at a
        exact absurd a t
      · omega
theorem plt_ok {A : Nat → Nat → Bool} {H : Nat → Nat} {Q : Nat → Prop} (n : Nat) (hq : ∀ d c, d < n → c < 18 → A d c = true → Q c) {c0 : Nat} (hc : c0 < 18) (h0 : A 0 c0 = true) : ∀ d, d ≤ n → pl_ok H Q (plt A H d) ∧ (0 < d → ∃ r, plt A H d = some r)
  | 0, _ => ⟨fun b m e => (by cases e), fun h => absurd h (Nat.lt_irrefl 0)⟩
  | d + 1, hd => by
    obtain ⟨h1, h2⟩ := plt_ok (H := H) n hq hc h0 d (by omega)
    obtain ⟨w1, w2, w3⟩ := plr_ok (A := A d) (H := H) h1 18 (fun c hc t => hq d c (by omega) hc t)
    refine ⟨w1, fun _ => ?_⟩
    by_cases e : d = 0
    · subst e
      exact w3 c0 hc h0
    · exact w2 (h2 (by omega))
theorem plr_no {A : Nat → Bool} {H : Nat → Nat} (o : Option (Nat × Nat)) : ∀ n, (∀ c, c < n → A c = false) → plr A H n o = o
  | 0, _ => rfl
  | n + 1, h => by
    unfold plr
    rw [h n (by omega), plr_no o n (fun c hc => h c (by omega))]
    rfl
theorem plt_end {A : Nat → Nat → Bool} {H : Nat → Nat} {d : Nat} (h : ∀ e c, d ≤ e → c < 18 → A e c = false) : ∀ j, d ≤ j → plt A H j = plt A H d
  | 0, hj => by rw [show d = 0 by omega]
  | j + 1, hj => by
    by_cases e : d = j + 1
    · rw [e]
    · show plr (A j) H 18 (plt A H j) = _
      rw [plr_no _ 18 (fun c hc => h j c (by omega) hc), plt_end h j (by omega)]
section
variable {S : ov_S} {G : ov_L2} {P : pl_T} {a : Nat} {g : pg_g} {p : Nat}
theorem s99 (R : pl_R S P) {k : Nat} (hk : k < pN P) : f99 4 S (nI k) = some (nI (lm P k)) := by
  have h6 := r_L6 R
  have hN := r_N6 R
  unfold f99
  refine lp_mask (body := b99_4 4 S (nI k)) (n := pL P) (fun l => decide (sy P l = k) || decide (hr P l = k)) (by omega) (fun l m hl hm => ?_) (fun m hm => ?_) rfl
  · obtain ⟨l1, l2, l3⟩ := r_ln R hl
    unfold b99_4 f99_30_4 f99_36_4
    rw [r_cL R, if_neg (nle_nI hl (by omega)), s44 R hl, Option.bind_some]
    by_cases e : sy P l = k
    · rw [if_pos (by rw [e]), s27 (by omega), Option.bind_some]
      exact or_t (by rw [decide_eq_true e]; rfl)
    · rw [if_neg (nI_ne e (by omega) (by omega)), s46 R hl, Option.bind_some]
      by_cases e2 : hr P l = k
      · rw [if_pos (by rw [e2]), s27 (by omega), Option.bind_some]
        exact or_t (by rw [decide_eq_true e2, Bool.or_true])
      · rw [if_neg (nI_ne e2 (by omega) (by omega))]
        exact or_f (by rw [decide_eq_false e, decide_eq_false e2]; rfl)
  · unfold b99_4
    rw [r_cL R, if_pos (le_nI (Nat.le_refl _) (by omega))]
theorem hl_lt (R : pl_R S P) (x : Nat) : hdm P g &&& x < 2 ^ 6 := Nat.lt_of_le_of_lt Nat.and_le_left (hdm_lt R)
theorem s98 (R : pl_R S P) {k c : Nat} {z : Int32} (hk : k < pN P) (he : pg_E S 21 (pu g k z) (pF P)) (hV : pg_V (pu g k (nI c)) (pN P) (pF P)) : f98 S (nI k) (nI c) = some (nI (hf P g k c), ov_up S (21 + 1) k (nI c)) := by
  have h6 := r_N6 R
  have E1 : pg_E (ov_up S (21 + 1) k (nI c)) 21 (pu g k (nI c)) (pF P) := by
    have := E_pu (k := k) (x := nI c) (by omega) he
    rw [pu_same] at this
    exact this
  have R1 : pl_R (ov_up S (21 + 1) k (nI c)) P := r_sm R (sm_up rfl)
  have b := hl_lt (g := pu g k (nI c)) R (lm P k)
  unfold f98
  rw [s90 R hk, Option.bind_some, s42f R1 hV E1, Option.bind_some, s99 R1 hk, Option.bind_some, nI_and, s69 (by omega)]
  rfl
theorem s199 (R : pl_R S P) {k c : Nat} (hk : k < pN P) (hm : pg_M S 56 (pu g k (nI c))) (hV : pg_V (pu g k (nI c)) (pN P) (pF P)) : f199 S (nI k) = some (nI (hf P g k c)) := by
  have h6 := r_L6 R
  have hN := r_N6 R
  have e : hf P g k c = pcn (hdm P (pu g k (nI c)) &&& lm P k) (pL P) := pcn_end (fun i hi => by rw [Nat.testBit_and, hdm_out hi, Bool.false_and]) 18 (by omega)
  unfold f199
  refine lp_bind (fun l => (nI (pcn (hdm P (pu g k (nI c)) &&& lm P k) l), nI l)) (pL P) (e := nI (pcn (hdm P (pu g k (nI c)) &&& lm P k) (pL P))) rfl (fun l hl => ?_) ?_ (by omega) (by rw [e])
  · obtain ⟨l1, l2, l3⟩ := r_ln R hl
    show b199_4 S (nI k) (nI (pcn (hdm P (pu g k (nI c)) &&& lm P k) l)) (nI l) = some (.inl (nI (pcn (hdm P (pu g k (nI c)) &&& lm P k) l + (if (hdm P (pu g k (nI c)) &&& lm P k).testBit l then 1 else 0)), nI (l + 1)))
    have bl : (lm P k).testBit l = (decide (sy P l = k) || decide (hr P l = k)) := by
      unfold lm
      rw [tb_mk, decide_eq_true hl, Bool.true_and]
    have yes : (lm P k).testBit l = true → ∀ x, f199_33_4 S (nI k) (nI l) (nI x) = some (.inl (nI (x + (if (hdm P (pu g k (nI c)) &&& lm P k).testBit l then 1 else 0)), nI (l + 1))) := by
      intro t x
      unfold f199_33_4 f199_49_4 f199_50_4
      rw [s164 R hV hm hl, Option.bind_some, Nat.testBit_and, t, Bool.and_true, nI_1]
      cases (hdm P (pu g k (nI c))).testBit l
      · rw [if_c0, show (0 : Int32) = nI 0 from rfl, nI_add]
        rfl
      · rw [if_c1, show (1 : Int32) = nI 1 from rfl, nI_add]
        rfl
    unfold b199_4
    rw [r_mL R, if_neg (nle_nI hl (by omega)), ov_ck_t (ib_nI (by omega) (by omega)), nI_clamp (by omega), r_ms R hl]
    by_cases e1 : sy P l = k
    · rw [if_pos (by rw [e1]), yes (by rw [bl, decide_eq_true e1]; rfl)]
    · rw [if_neg (nI_ne e1 (by omega) (by omega)), ov_ck_t (ib_nI (by omega) (by omega)), r_mh R hl]
      by_cases e2 : hr P l = k
      · rw [if_pos (by rw [e2]), yes (by rw [bl, decide_eq_true e2, Bool.or_true])]
      · rw [if_neg (nI_ne e2 (by omega) (by omega))]
        unfold f199_49_4 f199_50_4
        rw [Nat.testBit_and, bl, decide_eq_false e1, decide_eq_false e2, nI_1, show (0 : Int32) = nI 0 from rfl, nI_add, Bool.or_false, Bool.and_false]
        rfl
  · show b199_4 S (nI k) _ (nI (pL P)) = _
    unfold b199_4
    rw [r_mL R, if_pos (le_nI (Nat.le_refl _) (by omega))]
theorem lyr_fr {k c0 c d : Nat} (h0 : c0 < 18) (hc : c < 18) (h : (lyr (pth P g k) c0 d).testBit c = true) : c = c0 ∨ (frm g (pN P) (pF P)).testBit c = true := by
  rcases rr_in (pth_lt P g k) h0 hc d ((lyr_tb (pth_lt P g k) h0 hc d).mp h).1 with q | q
  · exact .inl q
  · exact .inr (pth_fr q)
theorem V_at (hv : pg_V g (pN P) (pF P)) (h6 : pN P ≤ 6) {k c0 c d : Nat} (hk : k < pN P) (h0 : c0 < 18) (e : g k = nI c0) (hc : c < 18) (h : (lyr (pth P g k) c0 d).testBit c = true) : pg_V (pu g k (nI c)) (pN P) (pF P) := by
  rcases lyr_fr h0 hc h with q | q
  · rw [q, pu_self e]
    exact hv
  · exact V_on hv h6 hk hc q
def plA (P : pl_T) (g : pg_g) (k c0 d c : Nat) : Bool := (lyr (pth P g k) c0 d).testBit c
theorem pr_m1 {k : Nat} (c0 : Nat) (o : Option (Nat × Nat)) (ho : pl_ok (fun c => hf P g k c) (fun _ => True) o) : (-1 : Int32) ≤ (pr1 c0 o).2 := by
  cases o with
  | none =>
    show (-1 : Int32) ≤ -1
    decide
  | some r =>
    obtain ⟨b, m⟩ := r
    have hm : m = hf P g k b := (ho b m rfl).1
    have l : hf P g k b ≤ 18 := pc_le _
    show (-1 : Int32) ≤ nI m
    rw [Int32.le_iff_toInt_le, nI_toInt (by omega)]
    have : (-1 : Int32).toInt = -1 := by decide
    omega
theorem pr_up1 {k c0 c : Nat} {o : Option (Nat × Nat)} (ho : pl_ok (fun c => hf P g k c) (fun _ => True) o) : (if nI (hf P g k c) ≤ (pr1 c0 o).2 then pr1 c0 o else (nI c, nI (hf P g k c))) = pr1 c0 (plu o c (hf P g k c)) := by
  have lc : hf P g k c ≤ 18 := pc_le _
  cases o with
  | none =>
    rw [if_neg]
    · rfl
    · intro q
      replace q : nI (hf P g k c) ≤ -1 := q
      rw [Int32.le_iff_toInt_le, nI_toInt (by omega)] at q
      have : (-1 : Int32).toInt = -1 := by decide
      omega
  | some r =>
    obtain ⟨b, m⟩ := r
    have hm : m = hf P g k b := (ho b m rfl).1
    have l : hf P g k b ≤ 18 := pc_le _
    show (if nI (hf P g k c) ≤ nI m then (nI b, nI m) else (nI c, nI (hf P g k c))) = pr1 c0 (if hf P g k c ≤ m then some (b, m) else some (c, hf P g k c))
    by_cases q : hf P g k c ≤ m
    · rw [if_pos (le_nI q (by omega)), if_pos q]
      rfl
    · rw [if_neg (nle_nI (by omega) (by omega)), if_neg q]
      rfl
theorem pr_up2 {k c : Nat} {o : Option (Nat × Nat)} (ho : pl_ok (fun c => hf P g k c) (fun _ => True) o) : (if nI (hf P g k c) ≤ (pr2 o).2 then pr2 o else (nI c, nI (hf P g k c))) = pr2 (plu o c (hf P g k c)) := by
  have lc : hf P g k c ≤ 18 := pc_le _
  cases o with
  | none =>
    rw [if_neg]
    · rfl
    · intro q
      replace q : nI (hf P g k c) ≤ -9 := q
      rw [Int32.le_iff_toInt_le, nI_toInt (by omega)] at q
      have : (-9 : Int32).toInt = -9 := by decide
      omega
  | some r =>
    obtain ⟨b, m⟩ := r
    have hm : m = hf P g k b := (ho b m rfl).1
    have l : hf P g k b ≤ 18 := pc_le _
    show (if nI (hf P g k c) ≤ nI m then (nI b, nI m) else (nI c, nI (hf P g k c))) = pr2 (if hf P g k c ≤ m then some (b, m) else some (c, hf P g k c))
    by_cases q : hf P g k c ≤ m
    · rw [if_pos (le_nI q (by omega)), if_pos q]
      rfl
    · rw [if_neg (nle_nI (by omega) (by omega)), if_neg q]
      rfl
theorem pl_T0 (k c0 : Nat) : ∀ d, pl_ok (fun c => hf P g k c) (fun _ => True) (plt (plA P g k c0) (hf P g k) d)
  | 0 => fun b m e => (by cases e)
  | d + 1 => (plr_ok (pl_T0 k c0 d) 18 (fun _ _ _ => trivial)).1
/-- a ring, the program's -/
theorem row1 (R : pl_R S P) (hv : pg_V g (pN P) (pF P)) {k c0 d : Nat} {x4 x6 x7 z : Int32} (hk : k < pN P) (h0 : c0 < 18) (e0 : g k = nI c0) (he : pg_E S 21 (pu g k z) (pF P)) : ∃ T z', ov_lp (fun s => b96_60 (nI k) x4 (nI (lyr (pth P g k) c0 d)) x6 x7 s.1 s.2.1 s.2.2.1 s.2.2.2) 2000 ((pr1 c0 (plt (plA P g k c0) (hf P g k) d)).1, (pr1 c0 (plt (plA P g k c0) (hf P g k) d)).2, (0 : Int32), S) = some ((pr1 c0 (plt (plA P g k c0) (hf P g k) (d + 1))).1, (pr1 c0 (plt (plA P g k c0) (hf P g k) (d + 1))).2, T) ∧ sm_S S T ∧ pg_E T 21 (pu g k z') (pF P) := by
  have h6 := r_N6 R
  have ll := lyr_lt (pth_lt P g k) h0 d
  have L : ∃ e, ov_lp (fun s => b96_60 (nI k) x4 (nI (lyr (pth P g k) c0 d)) x6 x7 s.1 s.2.1 s.2.2.1 s.2.2.2) 2000 ((pr1 c0 (plt (plA P g k c0) (hf P g k) d)).1, (pr1 c0 (plt (plA P g k c0) (hf P g k) d)).2, (0 : Int32), S) = some e ∧ (e.1 = (pr1 c0 (plt (plA P g k c0) (hf P g k) (d + 1))).1 ∧ e.2.1 = (pr1 c0 (plt (plA P g k c0) (hf P g k) (d + 1))).2 ∧ sm_S S e.2.2 ∧ ∃ z', pg_E e.2.2 21 (pu g k z') (pF P)) := by
    refine lp_inv (fun (c : Nat) (s : Int32 × Int32 × Int32 × ov_S) => s.1 = (pr1 c0 (plr (plA P g k c0 d) (hf P g k) c (plt (plA P g k c0) (hf P g k) d))).1 ∧ s.2.1 = (pr1 c0 (plr (plA P g k c0 d) (hf P g k) c (plt (plA P g k c0) (hf P g k) d))).2 ∧ s.2.2.1 = nI c ∧ sm_S S s.2.2.2 ∧ ∃ z', pg_E s.2.2.2 21 (pu g k z') (pF P)) (fun (e : Int32 × Int32 × ov_S) => e.1 = (pr1 c0 (plt (plA P g k c0) (hf P g k) (d + 1))).1 ∧ e.2.1 = (pr1 c0 (plt (plA P g k c0) (hf P g k) (d + 1))).2 ∧ sm_S S e.2.2 ∧ ∃ z', pg_E e.2.2 21 (pu g k z') (pF P)) 18 ?_ ?_ 0 _ (by omega) ⟨rfl, rfl, rfl, sm_rf, z, he⟩ (by omega)
    · rintro c ⟨x2, x3, x8, T⟩ hc ⟨w1, w2, w3, w4, z', w5⟩
      replace w1 : x2 = _ := w1
      replace w2 : x3 = _ := w2
      replace w3 : x8 = nI c := w3
      replace w4 : sm_S S T := w4
      replace w5 : pg_E T 21 (pu g k z') (pF P) := w5
      subst w1
      subst w2
      subst w3
      have RT := r_sm R w4
      have ok := (plr_ok (A := plA P g k c0 d) (H := hf P g k) (pl_T0 (P := P) (g := g) k c0 d) c (fun _ _ _ => trivial)).1
      show ∃ s', b96_60 (nI k) x4 (nI (lyr (pth P g k) c0 d)) x6 x7 _ _ (nI c) T = some (.inl s') ∧ _
      unfold b96_60
      rw [show (18 : Int32) = nI 18 from rfl, if_neg (nle_nI hc (by omega)), s23 (by omega) (by omega), Option.bind_some]
      cases t : (lyr (pth P g k) c0 d).testBit c
      · have un : plr (plA P g k c0 d) (hf P g k) (c + 1) (plt (plA P g k c0) (hf P g k) d) = plr (plA P g k c0 d) (hf P g k) c (plt (plA P g k c0) (hf P g k) d) := if_neg (fun q => by rw [show plA P g k c0 d c = false from t] at q; exact Bool.noConfusion q)
        rw [if_c0]
        unfold f96_88_60 f96_102_60
        rw [if_pos (pr_m1 c0 _ ok)]
        exact ⟨_, rfl, by rw [un], by rw [un], nI_1 c, w4, z', w5⟩
      · have un : plr (plA P g k c0 d) (hf P g k) (c + 1) (plt (plA P g k c0) (hf P g k) d) = plu (plr (plA P g k c0 d) (hf P g k) c (plt (plA P g k c0) (hf P g k) d)) c (hf P g k c) := if_pos t
        rw [if_c1, s98 RT hk w5 (V_at hv h6 hk h0 e0 hc t), Option.bind_some]
        try dsimp only
        have E2 : pg_E (ov_up T (21 + 1) k (nI c)) 21 (pu g k (nI c)) (pF P) := by
          have := E_pu (k := k) (x := nI c) (by omega) w5
          rw [pu_same] at this
          exact this
        have s2 : sm_S S (ov_up T (21 + 1) k (nI c)) := sm_tr w4 (sm_up rfl)
        have up := pr_up1 (c0 := c0) (c := c) ok
        rw [← un] at up
        unfold f96_88_60 f96_102_60
        by_cases q : nI (hf P g k c) ≤ (pr1 c0 (plr (plA P g k c0 d) (hf P g k) c (plt (plA P g k c0) (hf P g k) d))).2
        · rw [if_pos q]
          rw [if_pos q] at up
          exact ⟨_, rfl, by rw [up], by rw [up], nI_1 c, s2, _, E2⟩
        · rw [if_neg q]
          rw [if_neg q] at up
          exact ⟨_, rfl, by rw [← up], by rw [← up], nI_1 c, s2, _, E2⟩
    · rintro ⟨x2, x3, x8, T⟩ ⟨w1, w2, w3, w4⟩
      replace w3 : x8 = nI 18 := w3
      subst w3
      refine ⟨(x2, x3, T), ?_, w1, w2, w4⟩
      show b96_60 _ _ _ _ _ x2 x3 (nI 18) T = _
      unfold b96_60
      rw [show (18 : Int32) = nI 18 from rfl, if_pos (le_nI (Nat.le_refl _) (by omega))]
  obtain ⟨⟨e1, e2, T⟩, l1, l2, l3, l4, z', l5⟩ := L
  replace l2 : e1 = _ := l2
  replace l3 : e2 = _ := l3
  subst l2
  subst l3
  exact ⟨T, z', l1, l4, l5⟩
theorem s96 (h : in_P S G P) {k c0 : Nat} (hk : k < pN P) (h0 : c0 < 18) (e0 : S 55 k = nI c0) : ∃ b T z, f96 S (nI k) = some (nI b, T) ∧ plt (plA P (S 55) k c0) (hf P (S 55) k) 18 = some (b, hf P (S 55) k b) ∧ b < 18 ∧ sm_S S T ∧ pg_E T 21 (pu (S 55) k z) (pF P) ∧ pg_V (pu (S 55) k (nI b)) (pN P) (pF P) := by
  have R := h.2.1
  have hv := h.2.2.1.1
  have h6 := r_N6 R
  obtain ⟨S1, q1, q2, q3, q4, q5⟩ := tc_go h
  have he1 : pg_E S1 18 (S 55) (pF P) := E_n h.2.2.1.2.1 (q2 18 (by decide)) (q2 19 (by decide)) (q2 20 (by decide))
  have L : ∃ e, ov_lp (fun s => b96_45 (nI k) (nI (pth P (S 55) k)) s.1 s.2.1 s.2.2.1 s.2.2.2.1 s.2.2.2.2.1 s.2.2.2.2.2) 2000 (nI c0, (-1 : Int32), nI (2 ^ c0), nI (2 ^ c0), (0 : Int32), S1) = some e ∧ (e.1 = (pr1 c0 (plt (plA P (S 55) k c0) (hf P (S 55) k) 18)).1 ∧ sm_S S e.2 ∧ ∃ z', pg_E e.2 21 (pu (S 55) k z') (pF P)) := by
    refine lp_inv2 (fun (d : Nat) (s : Int32 × Int32 × Int32 × Int32 × Int32 × ov_S) => s.1 = (pr1 c0 (plt (plA P (S 55) k c0) (hf P (S 55) k) d)).1 ∧ s.2.1 = (pr1 c0 (plt (plA P (S 55) k c0) (hf P (S 55) k) d)).2 ∧ s.2.2.1 = nI (lyr (pth P (S 55) k) c0 d) ∧ s.2.2.2.1 = nI (rr (pth P (S 55) k) c0 d) ∧ s.2.2.2.2.1 = nI d ∧ sm_S S s.2.2.2.2.2 ∧ ∃ z', pg_E s.2.2.2.2.2 21 (pu (S 55) k z') (pF P)) (fun (e : Int32 × ov_S) => e.1 = (pr1 c0 (plt (plA P (S 55) k c0) (hf P (S 55) k) 18)).1 ∧ sm_S S e.2 ∧ ∃ z', pg_E e.2 21 (pu (S 55) k z') (pF P)) 18 ?_ ?_ 0 _ (by omega) ⟨rfl, rfl, rfl, rfl, rfl, q5, _, by rw [pu_self e0]; exact q3⟩ (by omega)
    · rintro d ⟨x2, x3, x5, x6, x7, T⟩ hd ⟨w1, w2, w3, w4, w5, w6, z', w7⟩
      replace w1 : x2 = _ := w1
      replace w2 : x3 = _ := w2
      replace w3 : x5 = _ := w3
      replace w4 : x6 = _ := w4
      replace w5 : x7 = _ := w5
      replace w6 : sm_S S T := w6
      replace w7 : pg_E T 21 (pu (S 55) k z') (pF P) := w7
      subst w1 w2 w3 w4 w5
      have ll := lyr_lt (pth_lt P (S 55) k) h0 d
      have rl := rr_lt (pth_lt P (S 55) k) h0 d
      show (∃ s', b96_45 (nI k) (nI (pth P (S 55) k)) _ _ (nI (lyr (pth P (S 55) k) c0 d)) (nI (rr (pth P (S 55) k) c0 d)) (nI d) T = some (.inl s') ∧ _) ∨ ∃ e, b96_45 (nI k) (nI (pth P (S 55) k)) _ _ (nI (lyr (pth P (S 55) k) c0 d)) (nI (rr (pth P (S 55) k) c0 d)) (nI d) T = some (.inr e) ∧ _
      unfold b96_45
      rw [show (18 : Int32) = nI 18 from rfl, if_neg (nle_nI hd (by omega))]
      by_cases z : lyr (pth P (S 55) k) c0 d = 0
      · rw [if_pos (by rw [z]; rfl)]
        have : plt (plA P (S 55) k c0) (hf P (S 55) k) 18 = plt (plA P (S 55) k c0) (hf P (S 55) k) d := by
          refine plt_end (fun e c he hc => ?_) 18 (by omega)
          show (lyr (pth P (S 55) k) c0 e).testBit c = false
          have : lyr (pth P (S 55) k) c0 e = 0 := by
            cases d with
            | zero =>
              replace z : 2 ^ c0 = 0 := z
              have := Nat.two_pow_pos c0
              omega
            | succ d => exact lyr_0 d e z he
          rw [this, Nat.zero_testBit]
        exact .inr ⟨_, rfl, by rw [this], w6, z', w7⟩
      · rw [if_neg (fun q => z ((nI_z (by omega)).mp q))]
        obtain ⟨T', z2, u1, u2, u3⟩ := row1 (r_sm R w6) hv (d := d) (x4 := nI (pth P (S 55) k)) (x6 := nI (rr (pth P (S 55) k) c0 d)) (x7 := nI d) hk h0 e0 w7
        rw [u1, Option.bind_some, s68 rl, Option.bind_some, nI_or]
        exact .inl ⟨_, rfl, rfl, rfl, rfl, rfl, nI_1 d, sm_tr w6 u2, z2, u3⟩
    · rintro ⟨x2, x3, x5, x6, x7, T⟩ ⟨w1, w2, w3, w4, w5, w6⟩
      replace w5 : x7 = nI 18 := w5
      subst w5
      refine ⟨(x2, T), ?_, w1, w6⟩
      show b96_45 _ _ x2 x3 x5 x6 (nI 18) T = _
      unfold b96_45
      rw [show (18 : Int32) = nI 18 from rfl, if_pos (le_nI (Nat.le_refl _) (by omega))]
  obtain ⟨⟨e1, T⟩, l1, l2, l3, z', l4⟩ := L
  replace l2 : e1 = _ := l2
  have h00 : plA P (S 55) k c0 0 c0 = true := by
    show (2 ^ c0).testBit c0 = true
    rw [tb_pow]
    exact decide_eq_true rfl
  obtain ⟨ok, ⟨⟨b, m⟩, eb⟩⟩ := (fun q => (⟨q.1, q.2 (by omega)⟩ : _ ∧ _)) (plt_ok (A := plA P (S 55) k c0) (H := hf P (S 55) k) (Q := fun c => c < 18 ∧ pg_V (pu (S 55) k (nI c)) (pN P) (pF P)) 18 (fun d c hd hc t => ⟨hc, V_at hv h6 hk h0 e0 hc t⟩) h0 h00 18 (Nat.le_refl _))
  obtain ⟨o1, o2, o3⟩ := ok b m eb
  refine ⟨b, T, z', ?_, by rw [eb, o1], o2, l3, l4, o3⟩
  unfold f96
  rw [q1, Option.bind_some, s35 q4 he1 hk, Option.bind_some, s66 q4 hv he1 hk, Option.bind_some, e0, s24 h0, Option.bind_some, l1, Option.bind_some, l2, eb]
  rfl
/-- a ring, the reference's -/
theorem row2 (R : pl_R S P) (hv : pg_V g (pN P) (pF P)) {k c0 d : Nat} {z : Int32} (hk : k < pN P) (h0 : c0 < 18) (e0 : g k = nI c0) (hd : d < 18) (hm : pg_M S 56 (pu g k z)) (hD : ∀ n, n < 18 → S 63 n = fdd (pth P g k) c0 17 n) (r1 : S 42 36 = (pr2 (plt (plA P g k c0) (hf P g k) d)).1) (r2 : S 42 37 = (pr2 (plt (plA P g k c0) (hf P g k) d)).2) : ∃ T, ov_lp (fun s => b198_44 (nI k) (nI d) s.1 s.2) 2000 ((0 : Int32), S) = some T ∧ (sm_S S T ∧ (∃ z', pg_M T 56 (pu g k z')) ∧ (∀ n, n < 18 → T 63 n = fdd (pth P g k) c0 17 n) ∧ T 42 36 = (pr2 (plt (plA P g k c0) (hf P g k) (d + 1))).1 ∧ T 42 37 = (pr2 (plt (plA P g k c0) (hf P g k) (d + 1))).2) := by
  have h6 := r_N6 R
  refine lp_inv (fun (c : Nat) (s : Int32 × ov_S) => s.1 = nI c ∧ sm_S S s.2 ∧ (∃ z', pg_M s.2 56 (pu g k z')) ∧ (∀ n, n < 18 → s.2 63 n = fdd (pth P g k) c0 17 n) ∧ s.2 42 36 = (pr2 (plr (plA P g k c0 d) (hf P g k) c (plt (plA P g k c0) (hf P g k) d))).1 ∧ s.2 42 37 = (pr2 (plr (plA P g k c0 d) (hf P g k) c (plt (plA P g k c0) (hf P g k) d))).2) (fun (T : ov_S) => sm_S S T ∧ (∃ z', pg_M T 56 (pu g k z')) ∧ (∀ n, n < 18 → T 63 n = fdd (pth P g k) c0 17 n) ∧ T 42 36 = (pr2 (plt (plA P g k c0) (hf P g k) (d + 1))).1 ∧ T 42 37 = (pr2 (plt (plA P g k c0) (hf P g k) (d + 1))).2) 18 ?_ ?_ 0 _ (by omega) ⟨rfl, sm_rf, ⟨z, hm⟩, hD, r1, r2⟩ (by omega)
  · rintro c ⟨x3, T⟩ hc ⟨rfl, w2, ⟨z', w3⟩, w4, w5, w6⟩
    replace w2 : sm_S S T := w2
    replace w3 : pg_M T 56 (pu g k z') := w3
    replace w4 : ∀ n, n < 18 → T 63 n = fdd (pth P g k) c0 17 n := w4
    replace w5 : T 42 36 = _ := w5
    replace w6 : T 42 37 = _ := w6
    have RT := r_sm R w2
    have ok := (plr_ok (A := plA P g k c0 d) (H := hf P g k) (pl_T0 (P := P) (g := g) k c0 d) c (fun _ _ _ => trivial)).1
    have fd := lyr_fd (n := c) (pth_lt P g k) h0 hc hd
    show ∃ s', b198_44 (nI k) (nI d) (nI c) T = some (.inl s') ∧ _
    unfold b198_44
    rw [show (18 : Int32) = nI 18 from rfl, if_neg (nle_nI hc (by omega)), ov_ck_t (ib_nI hc (by omega)), nI_clamp (by omega), w4 c hc]
    by_cases t : (lyr (pth P g k) c0 d).testBit c = true
    · have un : plr (plA P g k c0 d) (hf P g k) (c + 1) (plt (plA P g k c0) (hf P g k) d) = plu (plr (plA P g k c0 d) (hf P g k) c (plt (plA P g k c0) (hf P g k) d)) c (hf P g k c) := if_pos t
      have M2 : pg_M (ov_up T 56 k (nI c)) 56 (pu g k (nI c)) := by
        have := M_pu (k := k) (x := nI c) w3
        rw [pu_same] at this
        exact this
      have s2 : sm_S S (ov_up T 56 k (nI c)) := sm_tr w2 (sm_up rfl)
      have R2 := r_sm R s2
      have up := pr_up2 (c := c) ok
      rw [← un] at up
      have y5 : (ov_up T 56 k (nI c)) 42 36 = _ := (congrFun (up_n1 (show 42 ≠ 56 by decide)) 36).trans w5
      have y6 : (ov_up T 56 k (nI c)) 42 37 = _ := (congrFun (up_n1 (show 42 ≠ 56 by decide)) 37).trans w6
      have y7 : ∀ n, n < 18 → (ov_up T 56 k (nI c)) 63 n = fdd (pth P g k) c0 17 n := fun n hn => by
        rw [up_n1 (by decide)]
        exact w4 n hn
      rw [if_pos (fd.mp t), zadd, ov_ck_t (ib_nI (by omega) (by omega)), nI_clamp (by omega), s199 R2 hk M2 (V_at hv h6 hk h0 e0 hc t), Option.bind_some]
      generalize hU : ov_up T 56 k (nI c) = U at M2 s2 R2 y5 y6 y7
      have fin : ∀ x y : Int32, (x, y) = pr2 (plr (plA P g k c0 d) (hf P g k) (c + 1) (plt (plA P g k c0) (hf P g k) d)) → ∃ s', some (Sum.inl (nI c + 1, ov_up (ov_up U 42 36 x) 42 37 y) : (Int32 × ov_S) ⊕ ov_S) = some (.inl s') ∧ s'.1 = nI (c + 1) ∧ sm_S S s'.2 ∧ (∃ z', pg_M s'.2 56 (pu g k z')) ∧ (∀ n, n < 18 → s'.2 63 n = fdd (pth P g k) c0 17 n) ∧ s'.2 42 36 = (pr2 (plr (plA P g k c0 d) (hf P g k) (c + 1) (plt (plA P g k c0) (hf P g k) d))).1 ∧ s'.2 42 37 = (pr2 (plr (plA P g k c0 d) (hf P g k) (c + 1) (plt (plA P g k c0) (hf P g k) d))).2 := by
        intro x y exy
        refine ⟨_, rfl, nI_1 c, sm_tr s2 (sm_tr (sm_up rfl) (sm_up rfl)), ⟨nI c, M_n M2 (by show ov_up (ov_up U 42 36 x) 42 37 y 56 = U 56; rw [up_n1 (by decide), up_n1 (by decide)])⟩, fun n hn => ?_, ?_, ?_⟩
        · show ov_up (ov_up U 42 36 x) 42 37 y 63 n = _
          rw [up_n1 (by decide), up_n1 (by decide)]
          exact y7 n hn
        · show ov_up (ov_up U 42 36 x) 42 37 y 42 36 = _
          rw [up_n2 (by decide), up_eq, ← exy]
        · show ov_up (ov_up U 42 36 x) 42 37 y 42 37 = _
          rw [up_eq, ← exy]
      unfold f198_94_44 f198_116_44 f198_119_44
      rw [y6]
      by_cases q : nI (hf P g k c) ≤ (pr2 (plr (plA P g k c0 d) (hf P g k) c (plt (plA P g k c0) (hf P g k) d))).2
      · rw [if_pos q] at up ⊢
        rw [up_n2 (show 37 ≠ 36 by decide), y6, if_pos q]
        exact fin _ _ (by rw [y5]; exact up)
      · rw [if_neg q] at up ⊢
        rw [up_n2 (show 37 ≠ 36 by decide), y6, if_neg q]
        exact fin _ _ up
    · have un : plr (plA P g k c0 d) (hf P g k) (c + 1) (plt (plA P g k c0) (hf P g k) d) = plr (plA P g k c0 d) (hf P g k) c (plt (plA P g k c0) (hf P g k) d) := if_neg t
      rw [if_neg (fun q => t (fd.mpr q))]
      unfold f198_119_44
      exact ⟨_, rfl, nI_1 c, w2, ⟨z', w3⟩, w4, by rw [un]; exact w5, by rw [un]; exact w6⟩
  · rintro ⟨x3, T⟩ ⟨rfl, w⟩
    refine ⟨T, ?_, w⟩
    show b198_44 _ _ (nI 18) T = _
    unfold b198_44
    rw [show (18 : Int32) = nI 18 from rfl, if_pos (le_nI (Nat.le_refl _) (by omega))]
theorem s198 (R : pl_R S P) (h55 : S 55 = g) (hv : pg_V g (pN P) (pF P)) {k c0 : Nat} (hk : k < pN P) (h0 : c0 < 18) (e0 : g k = nI c0) : ∃ T, f198 S (nI k) = some T ∧ sm_S S T ∧ T 42 36 = (pr2 (plt (plA P g k c0) (hf P g k) 18)).1 ∧ T 42 37 = (pr2 (plt (plA P g k c0) (hf P g k) 18)).2 := by
  have h6 := r_N6 R
  obtain ⟨T1, u1, u2, u3, u4, u5⟩ := mc_go R h55
  obtain ⟨T2, v1, v2, v3⟩ := s178 (S := T1) (p := 55) u4 hv ⟨by decide, fun j _ => by rw [u2 55 (by decide), h55]⟩ hk h0 e0
  have s2 : sm_S S T2 := sm_tr u5 (sm_ag v2 (fun i hi j => by rw [List.mem_singleton.mp hi]; rfl))
  have M2 : pg_M T2 56 (pu g k (nI c0)) := by
    rw [pu_self e0]
    exact M_ag u3 v2 (by decide)
  have L : ∃ T, ov_lp (fun s => b198_36 (nI k) s.1 s.2) 2000 ((0 : Int32), (ov_up (ov_up T2 42 36 (-9 : Int32)) 42 37 (-9 : Int32))) = some T ∧ (sm_S S T ∧ T 42 36 = (pr2 (plt (plA P g k c0) (hf P g k) 18)).1 ∧ T 42 37 = (pr2 (plt (plA P g k c0) (hf P g k) 18)).2) := by
    refine lp_inv (fun (d : Nat) (s : Int32 × ov_S) => s.1 = nI d ∧ sm_S S s.2 ∧ (∃ z', pg_M s.2 56 (pu g k z')) ∧ (∀ n, n < 18 → s.2 63 n = fdd (pth P g k) c0 17 n) ∧ s.2 42 36 = (pr2 (plt (plA P g k c0) (hf P g k) d)).1 ∧ s.2 42 37 = (pr2 (plt (plA P g k c0) (hf P g k) d)).2) (fun (T : ov_S) => sm_S S T ∧ T 42 36 = (pr2 (plt (plA P g k c0) (hf P g k) 18)).1 ∧ T 42 37 = (pr2 (plt (plA P g k c0) (hf P g k) 18)).2) 18 ?_ ?_ 0 _ (by omega) ⟨rfl, sm_tr s2 (sm_tr (sm_up rfl) (sm_up rfl)), ⟨nI c0, M_n M2 (by show ov_up (ov_up T2 42 36 (-9)) 42 37 (-9) 56 = _; rw [up_n1 (by decide), up_n1 (by decide)])⟩, fun n hn => by show ov_up (ov_up T2 42 36 (-9)) 42 37 (-9) 63 n = _; rw [up_n1 (by decide), up_n1 (by decide)]; exact v3 n hn, rfl, rfl⟩ (by omega)
    · rintro d ⟨x2, T⟩ hd ⟨rfl, w2, ⟨z', w3⟩, w4, w5, w6⟩
      replace w2 : sm_S S T := w2
      obtain ⟨T', y1, y2, y3⟩ := row2 (r_sm R w2) hv hk h0 e0 hd w3 w4 w5 w6
      refine ⟨(nI d + 1, T'), ?_, nI_1 d, sm_tr w2 y2, y3⟩
      show b198_36 (nI k) (nI d) T = _
      unfold b198_36
      rw [show (18 : Int32) = nI 18 from rfl, if_neg (nle_nI hd (by omega)), y1]
      rfl
    · rintro ⟨x2, T⟩ ⟨rfl, w2, w3, w4, w5⟩
      refine ⟨T, ?_, w2, w5⟩
      show b198_36 (nI k) (nI 18) T = _
      unfold b198_36
      rw [show (18 : Int32) = nI 18 from rfl, if_pos (le_nI (Nat.le_refl _) (by omega))]
  obtain ⟨T, l1, l2, l3, l4⟩ := L
  refine ⟨T, ?_, l2, l3, l4⟩
  unfold f198
  rw [u1, Option.bind_some, v1, Option.bind_some, l1]
  rfl
theorem c_place (h : in_P S G P) (x y : Int32) : ok2 S G (f95 S x y) (fun T => f197 T x y) := by
  have R := h.2.1
  have RT := (in_t0 h).2.1
  have hv := h.2.2.1.1
  have he := h.2.2.1.2.1
  have hm := M_t0 S 0
  have h6 := r_N6 R
  have out : (x < 0 ∨ nI (pN P) ≤ x) → ok2 S G (f95 S x y) (fun T => f197 T x y) := fun hx => by
    refine o2 h sm_rf sm0 (-1) ?_ ?_
    · unfold f95
      rw [s29n R hx]
      rfl
    · show f197 S x y = _
      unfold f197
      rw [s175n RT hx]
      rfl
  rcases pk_ix x (n := pN P) (by omega) with hx | hx | ⟨k, hk, rfl⟩
  · exact out (.inl hx)
  · exact out (.inr hx)
  have out2 : (y < 0 ∨ nI 2 ≤ y) → ok2 S G (f95 S (nI k) y) (fun T => f197 T (nI k) y) := fun hy => by
    refine o2 h sm_rf sm0 (-2) ?_ ?_
    · unfold f95
      rw [s29 R hk, Option.bind_some, if_neg (by decide)]
      by_cases h0 : y < 0
      · rw [if_pos h0]
      · have h1 := hy.resolve_left h0
        have : ¬ y ≤ (1 : Int32) := fun q => by
          have a := Int32.le_iff_toInt_le.mp h1
          have b := Int32.le_iff_toInt_le.mp q
          rw [nI_toInt (by omega)] at a
          rw [show (1 : Int32) = nI 1 from rfl, nI_toInt (by omega)] at b
          omega
        rw [if_neg h0, if_neg this]
    · show f197 S (nI k) y = _
      unfold f197
      rw [s175 RT hk, Option.bind_some, if_pos rfl, show (1 : Int64) = (1 : Int32).toInt64 from rfl, s144z (n := 1) 1 rfl (by omega) hy]
      rfl
  rcases pk_ix y (n := 2) (by omega) with hy | hy | ⟨w, hw, rfl⟩
  · exact out2 (.inl hy)
  · exact out2 (.inr hy)
  have c1 : f95 S (nI k) (nI w) = (if (if S 55 k = -9 then (0 : Int32) else 1) = 0 then some ((-3 : Int32), S) else (f96 S (nI k)).bind fun y3 => (if nI w = 0 then some (y3.1, y3.2) else (f98 y3.2 (nI k) y3.1).bind fun y4 => some (y4.1, y4.2))) := by
    unfold f95
    rw [s29 R hk, Option.bind_some, if_neg (by decide), if_neg (nI_l0 (by omega)), if_pos (show nI w ≤ (1 : Int32) from le_nI (b := 1) (by omega) (by omega)), s34 R he hk, Option.bind_some]
  have c2 : ∀ T : ov_S, sm_S S T → f197 T (nI k) (nI w) = (if S 55 k = (-9 : Int32) then some ((-3 : Int32), (ov_up T 42 0 (0 : Int32))) else (f198 (ov_up T 42 0 (0 : Int32)) (nI k)).bind fun y4 => (if nI w = 0 then some ((y4 42 36), y4) else some ((y4 42 37), y4))) := by
    intro T hT
    have RT := r_sm R (sm_tr hT sm0)
    have e55 : (ov_up T 42 0 0) 55 = S 55 := by
      rw [up_n1 (by decide)]
      exact funext fun j => hT 55 j rfl
    unfold f197
    rw [s175 RT hk, Option.bind_some, if_pos rfl, show (1 : Int64) = (1 : Int32).toInt64 from rfl, s144y (n := 1) 1 rfl (by omega) (by omega), Option.bind_some, if_neg (by decide), zadd, ov_ck_t (ib_nI (by omega) (by omega)), nI_clamp (by omega), e55]
  rcases hv.1 k (by omega) with e | ⟨c0, h0, e⟩
  · refine o2 h sm_rf sm0 (-3) ?_ ?_
    · rw [c1, if_pos e]
      rfl
    · show f197 S (nI k) (nI w) = _
      rw [c2 S sm_rf, if_pos e]
  · have e9 : ¬ S 55 k = -9 := by rw [e]; exact nI_m9 (by omega)
    obtain ⟨b, T, z, t1, t2, t3, t4, t5, t6⟩ := s96 h hk h0 e
    rw [if_neg e9, if_neg (by decide), t1, Option.bind_some] at c1
    dsimp only at c1
    have fin : ∀ T' : ov_S, sm_S S T' → ∃ T2, f197 T' (nI k) (nI w) = some (if nI w = 0 then nI b else nI (hf P (S 55) k b), T2) ∧ sm_S T' T2 := by
      intro T' hT
      have e55 : (ov_up T' 42 0 0) 55 = S 55 := by
        rw [up_n1 (by decide)]
        exact funext fun j => hT 55 j rfl
      obtain ⟨T2, v1, v2, v3, v4⟩ := s198 (r_sm R (sm_tr hT sm0)) e55 hv hk h0 e
      rw [t2] at v3 v4
      refine ⟨T2, ?_, sm_tr sm0 v2⟩
      rw [c2 T' hT, if_neg e9, v1, Option.bind_some, v3, v4]
      by_cases q : nI w = 0
      · rw [if_pos q, if_pos q]
        rfl
      · rw [if_neg q, if_neg q]
        rfl
    by_cases q : nI w = 0
    · rw [if_pos q] at c1
      obtain ⟨T2, v1, v2⟩ := fin T t4
      rw [if_pos q] at v1
      exact o2 h t4 v2 _ c1 v1
    · have s5 : sm_S S (ov_up T (21 + 1) k (nI b)) := sm_tr t4 (sm_up rfl)
      rw [if_neg q, s98 (r_sm R t4) hk t5 t6, Option.bind_some] at c1
      obtain ⟨T2, v1, v2⟩ := fin _ s5
      rw [if_neg q] at v1
      exact o2 h s5 v2 _ c1 v1
end
