-- CALLS: what is only looked at
theorem n10 : ¬ (1 : Int32) = 0 := by decide
theorem o1 {S S2 : ov_S} {G : ov_L2} {P : pl_T} {c : Option Int32} {m : Option (Int32 × ov_S)} (h : in_P S G P) (s : sm_S S S2) (r : Int32) (hc : c = some r) (hm : m = some (r, S2)) : ok1 S G c m := ⟨r, S2, hc, hm, ⟨P, in_sm s h⟩, sm_0 s⟩
theorem sm0 {S : ov_S} : sm_S S (ov_up S 42 0 0) := sm_up rfl
theorem bw_same : ∀ c, c < 18 → bwi c c = false := by decide +kernel
def sgm (P : pl_T) (g : pg_g) (k : Nat) : Nat := mk (pN P) (fun j => sgb g k j (stm g (pF P) ||| bdm P g 63))
section
variable {S : ov_S} {G : ov_L2} {P : pl_T} {a : Nat} {g : pg_g} {p : Nat}
theorem sgb_same (hv : pg_V g (pN P) (pF P)) {k : Nat} (hk : k < 6) (b : Nat) : sgb g k k b = false := by
  unfold sgb
  rcases hv.1 k hk with e | ⟨c, hc, e⟩
  · rw [e]
    rfl
  · rw [ps_e hc e, bw_same c hc]
    simp
theorem s65 (h : pl_R S P) (hv : pg_V g (pN P) (pF P)) (he : pg_E S a g (pF P)) {k : Nat} (hk : k < pN P) : f65 a S (nI k) = some (nI (sgm P g k)) := by
  have h6 := r_N6 h
  unfold f65
  rw [s43 (r_F4 h) hv he, Option.bind_some, show (63 : Int32) = nI 63 from rfl, s38 h hv he (by omega), Option.bind_some, nI_or]
  refine lp_mask (body := b65_17 a S (nI k) (nI (stm g (pF P) ||| bdm P g 63))) (n := pN P) (fun j => sgb g k j (stm g (pF P) ||| bdm P g 63)) (by omega) (fun j m hj hm => ?_) (fun m hm => ?_) rfl
  · unfold b65_17
    rw [r_cN h, if_neg (nle_nI hj (by omega)), s47 h hv he hk hj, Option.bind_some]
    cases q : sgb g k j (stm g (pF P) ||| bdm P g 63)
    · rw [if_c0]
      exact or_f rfl
    · rw [if_c1, s27 (by omega), Option.bind_some]
      exact or_t rfl
  · unfold b65_17
    rw [r_cN h, if_pos (le_nI (Nat.le_refl _) (by omega))]
theorem s176 (h : pl_R S P) (hv : pg_V g (pN P) (pF P)) (hm : pg_M S 55 g) {k : Nat} (hk : k < pN P) : f176 S (nI k) = some (nI (sgm P g k)) := by
  have h6 := r_N6 h
  unfold f176
  refine lp_mask (body := b176_4 S (nI k)) (n := pN P) (fun j => sgb g k j (stm g (pF P) ||| bdm P g 63)) (by omega) (fun j m hj hmm => ?_) (fun m hmm => ?_) rfl
  · unfold b176_4
    rw [r_mN h, if_neg (nle_nI hj (by omega))]
    by_cases e : j = k
    · rw [if_pos (by rw [e])]
      exact or_f0 (by rw [e]; exact sgb_same hv (by omega) _)
    · have b1 := brm_lt (g := g) h k j
      rw [if_neg (nI_ne e (by omega) (by omega)), s165 h hv hm hk hj, Option.bind_some]
      cases q : brk P g k j
      · exact or_f0 (by rw [sgb_br h hv, q]; rfl)
      · rw [if_pos rfl]
        by_cases z : brm P g k j = 0
        · rw [if_pos (by rw [z]; rfl)]
          exact or_t1 (by omega) (by rw [sgb_br h hv, q, z]; rfl)
        · rw [if_neg (fun y => z ((nI_z (by omega)).mp y))]
          exact or_f0 (by rw [sgb_br h hv, q, decide_eq_false z]; rfl)
  · unfold b176_4
    rw [r_mN h, if_pos (le_nI (Nat.le_refl _) (by omega))]
theorem s177 (h : pl_R S P) (hv : pg_V g (pN P) (pF P)) (hm : pg_M S 55 g) {k c : Nat} (hk : k < pN P) (hc : c < 18) (e : g k = nI c) : ∃ S', f177 S (nI k) = some (nI (pc (rr (pth P g k) c 17)), S') ∧ ag [63] S S' := by
  have h6 := r_N6 h
  obtain ⟨S', s1, s2, s3⟩ := s178 h hv hm hk hc e
  refine ⟨S', ?_, s2⟩
  unfold f177
  rw [zadd, ov_ck_t (ib_nI (by omega) (by omega)), nI_clamp (by omega), hm.2 k (by omega), e, if_neg (nI_m9 (by omega)), s1, Option.bind_some]
  refine lp_bind (fun n => (nI (pcn (rr (pth P g k) c 17) n), nI n)) 18 (e := nI (pcn (rr (pth P g k) c 17) 18)) rfl (fun n hn => ?_) ?_ (by omega) rfl
  · show b177_28 S' (nI (pcn (rr (pth P g k) c 17) n)) (nI n) = some (.inl (nI (pcn (rr (pth P g k) c 17) n + (if (rr (pth P g k) c 17).testBit n then 1 else 0)), nI (n + 1)))
    unfold b177_28
    rw [show (18 : Int32) = nI 18 from rfl, if_neg (nle_nI hn (by omega)), ov_ck_t (ib_nI hn (by omega)), nI_clamp (by omega), s3 n hn]
    rcases fdd_sp (m := pth P g k) (c := c) (n := n) 17 (by omega) with ⟨h1, h2⟩ | ⟨d, h1, h2, h3, h4⟩
    · rw [if_pos h1, h2]
      show some (Sum.inl (nI _ + nI 0, nI n + 1)) = _
      rw [nI_add, nI_1]
      rfl
    · rw [if_neg (by rw [h2]; exact nI_m9 (by omega)), rr_up h1 h3]
      show some (Sum.inl (nI _ + nI 1, nI n + 1)) = _
      rw [nI_add, nI_1]
      rfl
  · show b177_28 S' _ (nI 18) = _
    unfold b177_28
    rw [show (18 : Int32) = nI 18 from rfl, if_pos (le_nI (Nat.le_refl _) (by omega))]
theorem c_about (h : in_P S G P) (x : Int32) : ok1 S G (f32 S x) (f159 S x) := by
  have R := h.2.1
  have RT := (in_t0 h).2.1
  have hv := h.2.2.1.1
  have he := h.2.2.1.2.1
  have hm := M_t0 S 0
  have h6 := r_N6 R
  obtain ⟨A, a1, a2, a3, _⟩ := h.2.2.2.1
  obtain ⟨t, t1, t2, t3, _⟩ := h.2.2.2.2.2.1
  unfold f32 f159
  by_cases q : x = 0
  · rw [if_pos q, if_pos q]
    exact o1 h sm0 (nI (pD P)) (by rw [r_cD R]) (by rw [r_mD RT])
  rw [if_neg q, if_neg q]
  clear q
  by_cases q : x = 1
  · rw [if_pos q, if_pos q]
    exact o1 h sm0 (nI (pF P)) (by rw [r_cF R]) (by rw [r_mF RT])
  rw [if_neg q, if_neg q]
  clear q
  by_cases q : x = 2
  · rw [if_pos q, if_pos q]
    exact o1 h sm0 (nI (pN P)) (by rw [r_cN R]) (by rw [r_mN RT])
  rw [if_neg q, if_neg q]
  clear q
  by_cases q : x = 3
  · rw [if_pos q, if_pos q]
    exact o1 h sm0 (nI (pL P)) (by rw [r_cL R]) (by rw [r_mL RT])
  rw [if_neg q, if_neg q]
  clear q
  by_cases q : x = 4
  · rw [if_pos q, if_pos q]
    exact o1 h sm0 (nI (onm P (S 55))) (by rw [s33 R he]; rfl) (by rw [s160 RT hm]; rfl)
  rw [if_neg q, if_neg q]
  clear q
  by_cases q : x = 5
  · rw [if_pos q, if_pos q]
    exact o1 h sm0 (nI (snm P (S 55))) (by rw [s36 R hv he]; rfl) (by rw [s161 RT hv hm]; rfl)
  rw [if_neg q, if_neg q]
  clear q
  by_cases q : x = 6
  · rw [if_pos q, if_pos q]
    exact o1 h sm0 (S 55 6) (by unfold f41; rw [he.2.2]; rfl) (by rw [up_n1 (by decide)]; rfl)
  rw [if_neg q, if_neg q]
  clear q
  by_cases q : x = 7
  · rw [if_pos q, if_pos q]
    exact o1 h sm0 (nI (hdm P (S 55))) (by rw [s42f R hv he]; rfl) (by rw [s163 RT hv hm]; rfl)
  rw [if_neg q, if_neg q]
  clear q
  by_cases q : x = 8
  · rw [if_pos q, if_pos q]
    exact o1 h sm0 (nI (frm (S 55) (pN P) (pF P))) (by rw [s53f R hv he]; rfl) (by rw [s170 RT hm hv, Option.bind_some, show (262143 : Int32) = nI 262143 from rfl, nI_cm]; rfl)
  rw [if_neg q, if_neg q]
  clear q
  by_cases q : x = 9
  · rw [if_pos q, if_pos q]
    exact o1 h sm0 (S 55 11) (by unfold f54; rw [h.2.2.1.2.2]; rfl) (by rw [up_n1 (by decide)]; rfl)
  rw [if_neg q, if_neg q]
  clear q
  by_cases q : x = 10
  · rw [if_pos q, if_pos q]
    exact o1 h sm0 (nI A) (by unfold f55; rw [a2]; rfl) (by rw [up_n2 (by decide), a3])
  rw [if_neg q, if_neg q]
  clear q
  by_cases q : x = 11
  · rw [if_pos q, if_pos q]
    exact o1 h sm0 (nI t) (by unfold f56; rw [t2]; rfl) (by rw [up_n2 (by decide), t3])
  rw [if_neg q, if_neg q]
  clear q
  by_cases q : x = 12
  · rw [if_pos q, if_pos q]
    exact o1 h sm0 (S 42 2) (by unfold f14; rw [h.1.1]; rfl) (by rw [up_n2 (by decide)])
  rw [if_neg q, if_neg q]
  exact o1 h sm0 (-2) rfl rfl
theorem c_door (h : in_P S G P) (x : Int32) : ok1 S G (f57 S x) (f171 S x) := by
  have R := h.2.1
  have RT := (in_t0 h).2.1
  have h3 := r_D3 R
  unfold f57 f171
  have out : (x < 0 ∨ nI (pD P) ≤ x) → ok1 S G ((f58 4 S x).bind fun y1 => (if y1 = 0 then some (-1 : Int32) else (f59 4 S x).bind fun y2 => some y2)) ((f172 (ov_up S 42 0 (0 : Int32)) x).bind fun y1 => (if y1 = 0 then ov_ck (ov_ibb x 3) (some (((ov_up S 42 0 (0 : Int32)) 44 (x).toNatClampNeg), (ov_up S 42 0 (0 : Int32)))) else some ((-1 : Int32), (ov_up S 42 0 (0 : Int32))))) := fun hx => by
    rw [s58n R hx, s172n RT hx]
    exact o1 h sm0 (-1) rfl rfl
  rcases pk_ix x (n := pD P) (by omega) with hx | hx | ⟨k, hk, rfl⟩
  · exact out (.inl hx)
  · exact out (.inr hx)
  · rw [s58 R hk, s172 RT hk, Option.bind_some, Option.bind_some, if_neg (by decide), if_pos rfl, s59 R hk, ov_ck_t (ib_nI (by omega) (by omega)), nI_clamp (by omega), r_md RT hk]
    exact o1 h sm0 _ rfl rfl
theorem c_stool (h : in_P S G P) (x : Int32) : ok1 S G (f60 S x) (f173 S x) := by
  have R := h.2.1
  have RT := (in_t0 h).2.1
  have he := h.2.2.1.2.1
  have h4 := r_F4 R
  have out : (x < 0 ∨ nI (pF P) ≤ x) → ok1 S G (f60 S x) (f173 S x) := fun hx => by
    unfold f60 f173
    rw [s7n R hx, s144o (r_mF RT) (by omega) hx]
    exact o1 h sm0 (-1) rfl rfl
  rcases pk_ix x (n := pF P) (by omega) with hx | hx | ⟨k, hk, rfl⟩
  · exact out (.inl hx)
  · exact out (.inr hx)
  · unfold f60 f173
    rw [s7 R hk, s144i (r_mF RT) hk (by omega), Option.bind_some, Option.bind_some, if_neg (by decide), if_neg (by decide), s61 R he hk, show (7 : Int32) = nI 7 from rfl, nI_add, ov_ck_t (ib_nI (by omega) (by omega)), nI_clamp (by omega)]
    exact o1 h sm0 (S 55 (7 + k)) rfl (by rw [up_n1 (by decide)])
theorem c_part (h : in_P S G P) (x y : Int32) : ok1 S G (f62 S x y) (f174 S x y) := by
  have R := h.2.1
  have RT := (in_t0 h).2.1
  have hv := h.2.2.1.1
  have he := h.2.2.1.2.1
  have hm := M_t0 S 0
  have h6 := r_N6 R
  have out : (x < 0 ∨ nI (pN P) ≤ x) → ok1 S G (f62 S x y) (f174 S x y) := fun hx => by
    unfold f62 f174
    rw [s29n R hx, s175n RT hx]
    exact o1 h sm0 (-1) rfl rfl
  rcases pk_ix x (n := pN P) (by omega) with hx | hx | ⟨k, hk, rfl⟩
  · exact out (.inl hx)
  · exact out (.inr hx)
  · unfold f62 f174
    rw [s29 R hk, s175 RT hk, Option.bind_some, Option.bind_some, if_neg (by decide), if_pos rfl]
    by_cases q : y = 0
    · rw [if_pos q, if_pos q, s63 R hk, ov_ck_t (ib_nI (by omega) (by omega)), nI_clamp (by omega), r_mw RT hk]
      exact o1 h sm0 _ rfl rfl
    rw [if_neg q, if_neg q]
    clear q
    by_cases q : y = 1
    · rw [if_pos q, if_pos q, s64 R hk, ov_ck_t (ib_nI (by omega) (by omega)), nI_clamp (by omega), r_mk RT hk]
      exact o1 h sm0 _ rfl rfl
    rw [if_neg q, if_neg q]
    clear q
    by_cases q : y = 2
    · rw [if_pos q, if_pos q, s35 R he hk, zadd, ov_ck_t (ib_nI (by omega) (by omega)), nI_clamp (by omega)]
      exact o1 h sm0 (S 55 k) rfl (by rw [up_n1 (by decide)])
    rw [if_neg q, if_neg q]
    clear q
    by_cases q : y = 3
    · rw [if_pos q, if_pos q, s65 R hv he hk, s176 RT hv hm hk]
      exact o1 h sm0 _ rfl rfl
    rw [if_neg q, if_neg q]
    clear q
    by_cases q : y = 4
    · rw [if_pos q, if_pos q, s35 R he hk, s66 R hv he hk, Option.bind_some, Option.bind_some]
      rcases hv.1 k (by omega) with e | ⟨c, hc, e⟩
      · rw [e, s67n, Option.bind_some, show (0 : Int32) = nI 0 from rfl, s69 (m := 0) (by decide)]
        refine o1 h sm0 (nI (pc 0)) rfl ?_
        unfold f177
        rw [show (nI 0 : Int32) = 0 from rfl, zadd, ov_ck_t (ib_nI (by omega) (by omega)), nI_clamp (by omega), hm.2 k (by omega), e]
        rfl
      · obtain ⟨S', w1, w2⟩ := s177 RT hv hm hk hc e
        rw [e, s67 (pth_lt _ _ _) hc, Option.bind_some, s69 (rr_lt (pth_lt _ _ _) hc _), w1]
        exact o1 h (sm_tr sm0 (sm_ag w2 (fun i hi j => by rw [List.mem_singleton.mp hi]; rfl))) _ rfl rfl
    rw [if_neg q, if_neg q]
    exact o1 h sm0 (-2) rfl rfl
theorem c_line (h : in_P S G P) (x y : Int32) : ok1 S G (f70 S x y) (f181 S x y) := by
  have R := h.2.1
  have RT := (in_t0 h).2.1
  have hv := h.2.2.1.1
  have he := h.2.2.1.2.1
  have hm := M_t0 S 0
  have h6 := r_L6 R
  have hl := hdm_lt (g := S 55) R
  obtain ⟨m1, m2⟩ := sd_e hv
  have out : (x < 0 ∨ nI (pL P) ≤ x) → ok1 S G (f70 S x y) (f181 S x y) := fun hx => by
    unfold f70 f181
    rw [s45n R hx, s144o (r_mL RT) (by omega) hx]
    exact o1 h sm0 (-1) rfl rfl
  rcases pk_ix x (n := pL P) (by omega) with hx | hx | ⟨k, hk, rfl⟩
  · exact out (.inl hx)
  · exact out (.inr hx)
  · unfold f70 f181
    rw [s45 R hk, s144i (r_mL RT) hk (by omega), Option.bind_some, Option.bind_some, if_neg n10, if_neg n10]
    by_cases q : y = 0
    · rw [if_pos q, if_pos q, s44 R hk, ov_ck_t (ib_nI (by omega) (by omega)), nI_clamp (by omega), r_ms RT hk]
      exact o1 h sm0 _ rfl rfl
    rw [if_neg q, if_neg q]
    clear q
    by_cases q : y = 1
    · rw [if_pos q, if_pos q, s46 R hk, ov_ck_t (ib_nI (by omega) (by omega)), nI_clamp (by omega), r_mh RT hk]
      exact o1 h sm0 _ rfl rfl
    rw [if_neg q, if_neg q]
    clear q
    by_cases q : y = 2
    · have e6 : ((ov_up S 42 0 (0 : Int32)) 55 ((6 : Int32)).toNatClampNeg) = nI (sd (S 55)) := by
        rw [up_n1 (by decide)]
        exact m2
      rw [if_pos q, if_pos q, e6, nI_bit (by omega) (by omega)]
      unfold f41
      rw [he.2.2, m2, Option.bind_some, s23 (by omega) (by omega), Option.bind_some]
      cases t : (sd (S 55)).testBit k
      · exact o1 h sm0 0 rfl rfl
      · exact o1 h sm0 1 rfl rfl
    rw [if_neg q, if_neg q]
    clear q
    by_cases q : y = 3
    · rw [if_pos q, if_pos q, s42f R hv he, Option.bind_some, s23 (by omega) (by omega), s164 RT hv hm hk, Option.bind_some, Option.bind_some]
      cases t : (hdm P (S 55)).testBit k
      · exact o1 h sm0 0 rfl rfl
      · exact o1 h sm0 1 rfl rfl
    rw [if_neg q, if_neg q]
    exact o1 h sm0 (-2) rfl rfl
theorem c_load (h : in_P S G P) (x : Int32) : ok1 S G (f71 S x) (f182 S x) := by
  have R := h.2.1
  have RT := (in_t0 h).2.1
  have hv := h.2.2.1.1
  have he := h.2.2.1.2.1
  have hm := M_t0 S 0
  have out : (x < 0 ∨ nI 6 ≤ x) → ok1 S G (f71 S x) (f182 S x) := fun hx => by
    unfold f71 f182
    rw [show (5 : Int64) = (5 : Int32).toInt64 from rfl, s144z (n := 5) 5 rfl (by omega) hx]
    by_cases h0 : x < 0
    · rw [if_pos h0]
      exact o1 h sm0 (-2) rfl rfl
    · rw [if_neg h0, if_neg (show ¬ x < (6 : Int32) from Int32.not_lt.mpr (hx.resolve_left h0))]
      exact o1 h sm0 (-2) rfl rfl
  rcases pk_ix x (n := 6) (by omega) with hx | hx | ⟨k, hk, rfl⟩
  · exact out (.inl hx)
  · exact out (.inr hx)
  · unfold f71 f182
    rw [show (5 : Int64) = (5 : Int32).toInt64 from rfl, s144y (n := 5) 5 rfl (by omega) hk, if_neg (nI_l0 (by omega)), show (6 : Int32) = nI 6 from rfl, if_pos (lt_nI hk (by omega)), s72 R hv he hk, Option.bind_some, Option.bind_some, if_neg (by decide), s183 RT hv hm hk]
    exact o1 h sm0 _ rfl rfl
theorem c_way (h : in_P S G P) (x y : Int32) : ok1 S G (f93 S x y) (f196 S x y) := by
  have R := h.2.1
  have RT := (in_t0 h).2.1
  have hv := h.2.2.1.1
  have he := h.2.2.1.2.1
  have hm := M_t0 S 0
  have h6 := r_N6 R
  have out : (x < 0 ∨ nI (pN P) ≤ x) → ok1 S G (f93 S x y) (f196 S x y) := fun hx => by
    unfold f93 f196
    rw [s29n R hx, s175n RT hx]
    exact o1 h sm0 (-1) rfl rfl
  rcases pk_ix x (n := pN P) (by omega) with hx | hx | ⟨k, hk, rfl⟩
  · exact out (.inl hx)
  · exact out (.inr hx)
  · have out2 : (y < 0 ∨ nI 18 ≤ y) → ok1 S G (f93 S (nI k) y) (f196 S (nI k) y) := fun hy => by
      unfold f93 f196
      rw [s29 R hk, s175 RT hk, Option.bind_some, Option.bind_some, if_neg (by decide), if_pos rfl, s49o hy, s193n hy]
      exact o1 h sm0 (-1) rfl rfl
    rcases pk_ix y (n := 18) (by omega) with hy | hy | ⟨n, hn, rfl⟩
    · exact out2 (.inl hy)
    · exact out2 (.inr hy)
    · unfold f93 f196
      rw [s29 R hk, s175 RT hk, Option.bind_some, Option.bind_some, if_neg (by decide), if_pos rfl, s49i hn, s193 hn, Option.bind_some, Option.bind_some, if_neg (by decide), if_pos rfl, s34 R he hk, Option.bind_some, zadd, ov_ck_t (ib_nI (by omega) (by omega)), nI_clamp (by omega), hm.2 k (by omega)]
      rcases hv.1 k (by omega) with e | ⟨c, hc, e⟩
      · rw [if_pos e, if_pos e]
        exact o1 h sm0 (-3) rfl rfl
      · have e9 : ¬ S 55 k = -9 := by rw [e]; exact nI_m9 (by omega)
        obtain ⟨S', w1, w2, w3⟩ := s178 RT hv hm hk hc e
        rw [if_neg e9, if_neg e9, if_neg (by decide), s35 R he hk, s66 R hv he hk, Option.bind_some, Option.bind_some, e, s94 (pth_lt _ _ _) hc hn, w1, Option.bind_some, Option.bind_some, ov_ck_t (ib_nI (by omega) (by omega)), nI_clamp (by omega), w3 n hn]
        exact o1 h (sm_tr sm0 (sm_ag w2 (fun i hi j => by rw [List.mem_singleton.mp hi]; rfl))) _ rfl rfl
theorem c_bars (h : in_P S G P) (x : Int32) : ok1 S G (f110 S x) (f206 S x) := by
  have R := h.2.1
  have RT := (in_t0 h).2.1
  have hv := h.2.2.1.1
  have he := h.2.2.1.2.1
  have hm := M_t0 S 0
  have h6 := r_L6 R
  have out : (x < 0 ∨ nI (pL P) ≤ x) → ok1 S G (f110 S x) (f206 S x) := fun hx => by
    unfold f110 f206
    rw [s45n R hx, s144o (r_mL RT) (by omega) hx]
    exact o1 h sm0 (-1) rfl rfl
  rcases pk_ix x (n := pL P) (by omega) with hx | hx | ⟨k, hk, rfl⟩
  · exact out (.inl hx)
  · exact out (.inr hx)
  · obtain ⟨l1, l2, l3⟩ := r_ln R hk
    unfold f110 f206
    rw [s45 R hk, s144i (r_mL RT) hk (by omega), Option.bind_some, Option.bind_some, if_neg (by decide), if_neg (by decide), s44 R hk, s46 R hk, Option.bind_some, Option.bind_some, s111 R hv he l1 l2, ov_ck_t (ib_nI (by omega) (by omega)), ov_ck_t (ib_nI (by omega) (by omega)), nI_clamp (by omega), r_ms RT hk, r_mh RT hk, s165 RT hv hm l1 l2]
    exact o1 h sm0 _ rfl rfl
end
