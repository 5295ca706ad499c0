-- THE STEPS TOGETHER
theorem ov_grow1 {oc : Nat} {ini : Bool} {i : Instr} {pc : Nat} {lv : List (Option Value)} {st : List Value} {μ : ov_Mem} {z : ov_Cfg} (h : ov_step1 oc ini i pc lv st μ = some z) : μ.1.length ≤ z.2.2.2.1.length ∧ ov_sz μ.1 ≤ ov_sz z.2.2.2.1 := by
  have nw : ∀ (sh : ov_Sh) (g : Nat → Value), μ.1.length ≤ (ov_nw μ sh g).1.length ∧ ov_sz μ.1 ≤ ov_sz (ov_nw μ sh g).1 := by
    intro sh g
    have e1 : (ov_nw μ sh g).1.length = μ.1.length + 1 := by
      show (μ.1 ++ [sh]).length = _
      simp
    have e2 : ov_sz (ov_nw μ sh g).1 = ov_sz μ.1 + sh.2.2 := ov_sz_app _ _
    omega
  cases i <;> first
    | (cases h; done)
    | (simp only [ov_step1, ov_ldI, ov_ldL, ov_ldA, ov_stI, ov_stL, ov_stA, ov_inc, ov_ii, ov_iz, ov_ll, ov_lz, ov_li, ov_i1, ov_l1, ov_cm, ov_dup, ov_dup2, ov_pop, ov_if, ov_cmp, ov_go, ov_ts, ov_lk, ov_gf, ov_pf, ov_al, ov_rdI, ov_rd, ov_wr, ov_na, ov_an, ov_ne, ov_oi, ov_sta, ov_mth, ov_cy, Option.map_eq_some_iff, cond_eq_ite] at h
       (repeat' split at h) <;> first
        | (cases h; done)
        | (cases h; exact ⟨Nat.le_refl _, Nat.le_refl _⟩)
        | (cases h; exact nw _ _)
        | (obtain ⟨w, _, rfl⟩ := h; exact ⟨Nat.le_refl _, Nat.le_refl _⟩))
theorem ov_grow {M : Nat} {x z : ov_Cfg} (h : ov_step M x = some z) : x.2.2.2.1.length ≤ z.2.2.2.1.length ∧ ov_sz x.2.2.2.1 ≤ ov_sz z.2.2.2.1 := by
  unfold ov_step at h
  split at h
  · rename_i i n hd
    cases hb : (ov_sw i || Nat.beq n (ov_len i)) with
    | false => rw [hb] at h; cases h
    | true => rw [hb] at h; exact ov_grow1 h
  · cases h
theorem ov_growC : ∀ (d : Nat) (M : Nat) (as : List Value) (μ : ov_Mem) (rv : Option Value) (μ' : ov_Mem), ov_C d M as μ rv μ' → μ.1.length ≤ μ'.1.length ∧ ov_sz μ.1 ≤ ov_sz μ'.1
  | 0, _, _, _, _, _, h => h.elim
  | d + 1, M, as, μ, rv, μ', h => by
    obtain ⟨k, x, hN, -, rfl⟩ := h
    have key : ∀ (k : Nat) (x y : ov_Cfg), ov_N (ov_C d) M k x y → x.2.2.2.1.length ≤ y.2.2.2.1.length ∧ ov_sz x.2.2.2.1 ≤ ov_sz y.2.2.2.1 := by
      intro k
      induction k with
      | zero => intro x y h; cases h; exact ⟨Nat.le_refl _, Nat.le_refl _⟩
      | succ k ih =>
        intro x y h
        obtain ⟨z, hI, hN⟩ := h
        have h2 := ih z y hN
        rcases hI with hs | ⟨y', as', r, rv', μ1, -, hC, rfl⟩
        · have h1 := ov_grow hs
          omega
        · have h1 := ov_growC d _ _ _ _ _ hC
          dsimp only at h2
          omega
    exact key k _ _ hN
theorem ov_growN {d M k : Nat} {x y : ov_Cfg} (h : ov_N (ov_C d) M k x y) : x.2.2.2.1.length ≤ y.2.2.2.1.length ∧ ov_sz x.2.2.2.1 ≤ ov_sz y.2.2.2.1 := by
  induction k generalizing x with
  | zero => cases h; exact ⟨Nat.le_refl _, Nat.le_refl _⟩
  | succ k ih =>
    obtain ⟨z, hI, hN⟩ := h
    have h2 := ih hN
    rcases hI with hs | ⟨y', as', r, rv', μ1, -, hC, rfl⟩
    · have h1 := ov_grow hs
      omega
    · have h1 := ov_growC d _ _ _ _ _ hC
      dsimp only at h2
      omega
section ov_S
variable {p : Program} {l : Launch} {e : Env} {R : Room} {s : State} {m : MethodId} {args : Array Value} {below : List Frame} {meth : Method} {c : Code} {Q : State → Prop}
variable {D : ov_G} {b h0 n0 z0 M : Nat}
set_option maxHeartbeats 2000000 in
theorem ov_step_sound (X : ov_X p s m args meth c D M) (hRf : 1 ≤ R.frames) (hRl : 64 ≤ R.locals) {x z : ov_Cfg} (h : ov_step M x = some z) (hn : n0 ≤ x.2.2.2.1.length) (hz : z0 ≤ ov_sz x.2.2.2.1) (hc : z.2.2.2.1.length - n0 ≤ R.cells) (hs : ov_sz z.2.2.2.1 - z0 ≤ R.slots)
    (kk : ov_W p l e R s m args below meth c Q D b h0 n0 z0 M z) : ov_W p l e R s m args below meth c Q D b h0 n0 z0 M x := by
  have hg := ov_grow h
  obtain ⟨pc, lv, st, μ⟩ := x
  unfold ov_step at h
  split at h
  · rename_i i n hd
    cases hb : (ov_sw i || Nat.beq n (ov_len i)) with
    | false => rw [hb] at h; cases h
    | true =>
      rw [hb] at h
      cases i with
      | iconst k => cases ov_beq hb; exact ov_s_iconst X hd h kk
      | bipush k => cases ov_beq hb; exact ov_s_bipush X hd h kk
      | sipush k => cases ov_beq hb; exact ov_s_sipush X hd h kk
      | lconst k => cases ov_beq hb; exact ov_s_lconst X hd h kk
      | ldc k => cases ov_beq hb; exact ov_s_ldc X hd h kk
      | ldc_w k => cases ov_beq hb; exact ov_s_ldc_w X hd h kk
      | ldc2_w k => cases ov_beq hb; exact ov_s_ldc2_w X hd h kk
      | iload k => cases ov_beq hb; exact ov_s_iload X hd h kk
      | iload_n k => cases ov_beq hb; exact ov_s_iload_n X hd h kk
      | lload k => cases ov_beq hb; exact ov_s_lload X hd h kk
      | lload_n k => cases ov_beq hb; exact ov_s_lload_n X hd h kk
      | aload k => cases ov_beq hb; exact ov_s_aload X hd h kk
      | aload_n k => cases ov_beq hb; exact ov_s_aload_n X hd h kk
      | istore k => cases ov_beq hb; exact ov_s_istore X hd h kk
      | istore_n k => cases ov_beq hb; exact ov_s_istore_n X hd h kk
      | lstore k => cases ov_beq hb; exact ov_s_lstore X hd h kk
      | lstore_n k => cases ov_beq hb; exact ov_s_lstore_n X hd h kk
      | astore k => cases ov_beq hb; exact ov_s_astore X hd h kk
      | astore_n k => cases ov_beq hb; exact ov_s_astore_n X hd h kk
      | iadd => cases ov_beq hb; exact ov_s_iadd X hd h kk
      | isub => cases ov_beq hb; exact ov_s_isub X hd h kk
      | imul => cases ov_beq hb; exact ov_s_imul X hd h kk
      | iand => cases ov_beq hb; exact ov_s_iand X hd h kk
      | ior => cases ov_beq hb; exact ov_s_ior X hd h kk
      | ixor => cases ov_beq hb; exact ov_s_ixor X hd h kk
      | ishl => cases ov_beq hb; exact ov_s_ishl X hd h kk
      | ishr => cases ov_beq hb; exact ov_s_ishr X hd h kk
      | iushr => cases ov_beq hb; exact ov_s_iushr X hd h kk
      | idiv => cases ov_beq hb; exact ov_s_idiv X hd h kk
      | irem => cases ov_beq hb; exact ov_s_irem X hd h kk
      | ineg => cases ov_beq hb; exact ov_s_ineg X hd h kk
      | ladd => cases ov_beq hb; exact ov_s_ladd X hd h kk
      | lsub => cases ov_beq hb; exact ov_s_lsub X hd h kk
      | lmul => cases ov_beq hb; exact ov_s_lmul X hd h kk
      | land => cases ov_beq hb; exact ov_s_land X hd h kk
      | lor => cases ov_beq hb; exact ov_s_lor X hd h kk
      | ldiv => cases ov_beq hb; exact ov_s_ldiv X hd h kk
      | lrem => cases ov_beq hb; exact ov_s_lrem X hd h kk
      | lneg => cases ov_beq hb; exact ov_s_lneg X hd h kk
      | lshl => cases ov_beq hb; exact ov_s_lshl X hd h kk
      | lushr => cases ov_beq hb; exact ov_s_lushr X hd h kk
      | i2l => cases ov_beq hb; exact ov_s_i2l X hd h kk
      | l2i => cases ov_beq hb; exact ov_s_l2i X hd h kk
      | lcmp => cases ov_beq hb; exact ov_s_lcmp X hd h kk
      | dup => cases ov_beq hb; exact ov_s_dup X hd h kk
      | dup2 => cases ov_beq hb; exact ov_s_dup2 X hd h kk
      | pop => cases ov_beq hb; exact ov_s_pop X hd h kk
      | goto k => cases ov_beq hb; exact ov_s_goto X hd h kk
      | iaload => cases ov_beq hb; exact ov_s_iaload X hd h kk
      | baload => cases ov_beq hb; exact ov_s_baload X hd h kk
      | aaload => cases ov_beq hb; exact ov_s_aaload X hd h kk
      | iastore => cases ov_beq hb; exact ov_s_iastore X hd h kk
      | bastore => cases ov_beq hb; exact ov_s_bastore X hd h kk
      | aastore => cases ov_beq hb; exact ov_s_aastore X hd h kk
      | iinc k n => cases ov_beq hb; exact ov_s_iinc X hd h kk
      | ifCond cnd off =>
        cases ov_beq hb
        cases cnd with
        | eq => exact ov_s_if_eq X hd h kk
        | ne => exact ov_s_if_ne X hd h kk
        | lt => exact ov_s_if_lt X hd h kk
        | ge => exact ov_s_if_ge X hd h kk
        | gt => exact ov_s_if_gt X hd h kk
        | le => exact ov_s_if_le X hd h kk
      | if_icmp cnd off =>
        cases ov_beq hb
        cases cnd with
        | eq => exact ov_s_icmp_eq X hd h kk
        | ne => exact ov_s_icmp_ne X hd h kk
        | lt => exact ov_s_icmp_lt X hd h kk
        | ge => exact ov_s_icmp_ge X hd h kk
        | gt => exact ov_s_icmp_gt X hd h kk
        | le => exact ov_s_icmp_le X hd h kk
      | tableswitch dd lo hi offs => exact ov_s_tsw X hd h kk
      | lookupswitch dd ps => exact ov_s_lsw X hd h kk
      | getfield idx => cases ov_beq hb; exact ov_s_gf X hd h kk
      | putfield idx => cases ov_beq hb; exact ov_s_pf X hd h kk
      | arraylength => cases ov_beq hb; exact ov_s_alen X hd h kk
      | newarray ty => cases ov_beq hb; exact ov_s_newarray X hd h hn hz hc hs kk
      | anewarray idx => cases ov_beq hb; exact ov_s_anew X hd h hn hz hc hs kk
      | new idx => cases ov_beq hb; exact ov_s_new X hd h hn hz hc hs kk
      | invokespecial idx => cases ov_beq hb; exact ov_s_oi X hRf hRl hd h kk
      | invokestatic idx => cases ov_beq hb; exact ov_s_mth X hRf hRl (by dsimp only at hg; omega) (by dsimp only at hg; omega) hd h kk
      | _ => cases h
  · cases h
end ov_S
