theorem am_clk_lt : ∀ own, own < 18 → ∀ f ∈ am_clk own, f.2.1 < 277 := by decide +kernel
theorem am_okc_lt2 {own j y k : Nat} (hown : own < 18) (h : am_okc own j y k = true) : Nat.blt y 277 = true := by
  obtain ⟨f, hf, f1, f2, f3⟩ := am_cl_row hown h
  have := am_clk_lt own hown f hf
  rw [f2] at this
  exact am_blt_t this
theorem am_276v {own j : Nat} {x : Nat × Nat × Nat × Nat} {a b c d : Bool} (hown : own < 18) (h : (a || (am_okc own j x.1 0 && Nat.blt x.1 278 && b && c && d)) = true) : (a || (am_okc own j x.1 0 && Nat.blt x.1 277 && b && c && d)) = true := by
  cases a with
  | true => rfl
  | false =>
    rw [Bool.false_or] at h ⊢
    simp only [Bool.and_eq_true] at h ⊢
    exact ⟨⟨⟨⟨h.1.1.1.1, am_okc_lt2 hown h.1.1.1.1⟩, h.1.1.2⟩, h.1.2⟩, h.2⟩
theorem am_276s {own j : Nat} {x : Nat × Nat × Nat × Nat} {b c : Bool} (hown : own < 18) (h : ((am_okc own j x.1 1 || am_okc own j x.1 3) && Nat.blt x.1 278 && b && c) = true) : ((am_okc own j x.1 1 || am_okc own j x.1 3) && Nat.blt x.1 277 && b && c) = true := by
  simp only [Bool.and_eq_true] at h ⊢
  refine ⟨⟨⟨h.1.1.1, ?_⟩, h.1.2⟩, h.2⟩
  have := h.1.1.1
  rw [Bool.or_eq_true] at this
  rcases this with q | q <;> exact am_okc_lt2 hown q
theorem am_276i {own j : Nat} {x : Nat × Nat × Nat × Nat} {b c d e g : Bool} (hown : own < 18) (h : ((am_okc own j x.1 2 || am_okc own j x.1 4) && Nat.blt x.1 278 && b && c && d && e && g) = true) : ((am_okc own j x.1 2 || am_okc own j x.1 4) && Nat.blt x.1 277 && b && c && d && e && g) = true := by
  simp only [Bool.and_eq_true] at h ⊢
  refine ⟨⟨⟨⟨⟨⟨h.1.1.1.1.1.1, ?_⟩, h.1.1.1.1.2⟩, h.1.1.1.2⟩, h.1.1.2⟩, h.1.2⟩, h.2⟩
  have := h.1.1.1.1.1.1
  rw [Bool.or_eq_true] at this
  rcases this with q | q <;> exact am_okc_lt2 hown q
theorem am_n99 {a : Nat} (h : (!Nat.beq a 99) = true) : a ≠ 99 := fun e => by rw [e] at h; cases h
theorem go_acp {p : Program} {l : Launch} {e : Env} {R : Room} {s : State} {m : MethodId} {args : Array Value} {below : List Frame} {meth : Method} {c : Code} {Q : State → Prop} {D : va_G} {B0 : Nat} {ka : Nat → Nat} {vF : Value} {md : Bool} {y n0 c0 s0 : Nat} {ad0 : Nat → Nat} {nf : Nat} {G : am_S → Prop} (hG : G = am_Go p l e R s m args below meth c Q D B0 ka vF md y n0 c0 s0 ad0 nf) (C : am_Cx p s m args c y B0 ka vF) {k : am_S → Option am_R} {r : am_R} (hk : ∀ S, k S = some r → G S) {pc nx : Nat} {L st : List am_V} {σ : am_M} {n : Nat} {d j : Nat} (hR : am_Rm R d c0 s0 n0 nf) (hd : decode (am_by y) pc = .ok (.invokestatic j, 3)) (hn : nx = pc + 3) (hw : am_okc (am_own y) j 0 6 = true) (h : am_acp st (fun st σ => k (nx, L, st, σ, n)) σ = some r) : G (pc, L, st, σ, n) := by
  obtain ⟨z, st1, e1, h1⟩ := am_i1_some h
  obtain ⟨dp, st2, e2, h2⟩ := am_i1_some h1
  obtain ⟨u, b, st3, e3, h3⟩ := am_v1_some h2
  obtain ⟨sp, st4, e4, h4⟩ := am_i1_some h3
  obtain ⟨t, a, st5, e5, h5⟩ := am_v1_some h4
  obtain ⟨hb, h6⟩ := am_bif_some h5
  subst e5
  subst e4
  subst e3
  subst e2
  simp only [Bool.and_eq_true, Bool.or_eq_true] at hb
  obtain ⟨⟨b1, b2⟩, b3⟩ := hb
  have b1 := am_beq_t b1
  rcases b2 with b2 | b2
  · have b2 := am_beq_t b2
    subst b2
    subst b1
    exact go_copy11 hG C hk e1 hR (Nat.le_of_ble_eq_true b3) hd hn hw h6
  · have b2 := am_beq_t b2
    subst b2
    subst b1
    exact go_copy12 hG C hk e1 hR (Nat.le_of_ble_eq_true b3) hd hn hw h6
theorem go_mth {p : Program} {l : Launch} {e : Env} {R : Room} {s : State} {m : MethodId} {args : Array Value} {below : List Frame} {meth : Method} {c : Code} {Q : State → Prop} {D : va_G} {B0 : Nat} {ka : Nat → Nat} {vF : Value} {md : Bool} {y n0 c0 s0 : Nat} {ad0 : Nat → Nat} {nf : Nat} {G : am_S → Prop} (hG : G = am_Go p l e R s m args below meth c Q D B0 ka vF md y n0 c0 s0 ad0 nf) (C : am_Cx p s m args c y B0 ka vF) {k : am_S → Option am_R} {r : am_R} (hk : ∀ S, k S = some r → G S) {pc nx : Nat} {L st : List am_V} {σ : am_M} {n : Nat} {d j y' : Nat} (hR : am_Rm R d c0 s0 n0 nf) (hd : decode (am_by y) pc = .ok (.invokestatic j, 3)) (hn : nx = pc + 3) (hx : (am_okc (am_own y) j y' 7 && Nat.blt y' 4) = true) (h : am_mth y' st (fun st => k (nx, L, st, σ, n)) = some r) : G (pc, L, st, σ, n) := by
  rw [Bool.and_eq_true] at hx
  have hl := am_blt_lt hx.2
  have hw := hx.1
  rcases (by omega : y' = 0 ∨ y' = 1 ∨ y' = 2 ∨ y' = 3) with rfl | rfl | rfl | rfl
  · exact go_math0 hG C hk hR hd hn hw h
  · exact go_math1 hG C hk hR hd hn hw h
  · exact go_math2 hG C hk hR hd hn hw h
  · exact go_math3 hG C hk hR hd hn hw h
set_option maxHeartbeats 8000000 in
theorem go_ins {p : Program} {l : Launch} {e : Env} {R : Room} {s : State} {m : MethodId} {args : Array Value} {below : List Frame} {meth : Method} {c : Code} {Q : State → Prop} {D : va_G} {B0 : Nat} {ka : Nat → Nat} {vF : Value} {md : Bool} {y n0 c0 s0 : Nat} {ad0 : Nat → Nat} {nf : Nat} {G : am_S → Prop} (hG : G = am_Go p l e R s m args below meth c Q D B0 ka vF md y n0 c0 s0 ad0 nf) (C : am_Cx p s m args c y B0 ka vF) {k : am_S → Option am_R} {r : am_R} (hk : ∀ S, k S = some r → G S) {pc nx : Nat} {L st : List am_V} {σ : am_M} {n : Nat} {d : Nat} {x : Nat × Nat × Nat × Nat} {call : am_C} (hcall : ∀ (y' : Nat), y' < 277 → ∀ (as : List am_V) (σ : am_M) (n : Nat) (q : am_R), call y' as σ n = some q → ∃ d', d = d' + 1 ∧ am_MO l D B0 ka vF md d' y' as σ n q) (hR : am_Rm R d c0 s0 n0 nf) (hHR : am_HR p l e R s m args below meth c Q D B0 ka vF md y n0 c0 s0 ad0 r) (hnf : nf = r.2.2) (hmn : am_ini y = true → meth.name = "<init>") {i : Instr} {len : Nat} (hd : decode (am_by y) pc = .ok (i, len)) (hn : nx = pc + len) (hsw : (am_isw i || Nat.beq len (am_il i)) = true) (hx : am_xok y pc i x = true) (h : am_ins md y call k i nx x pc L st σ n = some r) : G (pc, L, st, σ, n) := by
  cases i with
  | iadd =>
    obtain rfl : len = 1 := am_beq_t hsw
    exact go_iadd hG C hk hd hn h
  | isub =>
    obtain rfl : len = 1 := am_beq_t hsw
    exact go_isub hG C hk hd hn h
  | imul =>
    obtain rfl : len = 1 := am_beq_t hsw
    exact go_imul hG C hk hd hn h
  | iand =>
    obtain rfl : len = 1 := am_beq_t hsw
    exact go_iand hG C hk hd hn h
  | ior =>
    obtain rfl : len = 1 := am_beq_t hsw
    exact go_ior hG C hk hd hn h
  | ixor =>
    obtain rfl : len = 1 := am_beq_t hsw
    exact go_ixor hG C hk hd hn h
  | ishl =>
    obtain rfl : len = 1 := am_beq_t hsw
    exact go_ishl hG C hk hd hn h
  | ishr =>
    obtain rfl : len = 1 := am_beq_t hsw
    exact go_ishr hG C hk hd hn h
  | iushr =>
    obtain rfl : len = 1 := am_beq_t hsw
    exact go_iushr hG C hk hd hn h
  | idiv =>
    obtain rfl : len = 1 := am_beq_t hsw
    exact go_idiv hG C hk hd hn h
  | irem =>
    obtain rfl : len = 1 := am_beq_t hsw
    exact go_irem hG C hk hd hn h
  | ladd =>
    obtain rfl : len = 1 := am_beq_t hsw
    exact go_ladd hG C hk hd hn h
  | lsub =>
    obtain rfl : len = 1 := am_beq_t hsw
    exact go_lsub hG C hk hd hn h
  | lmul =>
    obtain rfl : len = 1 := am_beq_t hsw
    exact go_lmul hG C hk hd hn h
  | land =>
    obtain rfl : len = 1 := am_beq_t hsw
    exact go_land hG C hk hd hn h
  | lor =>
    obtain rfl : len = 1 := am_beq_t hsw
    exact go_lor hG C hk hd hn h
  | lxor =>
    obtain rfl : len = 1 := am_beq_t hsw
    exact go_lxor hG C hk hd hn h
  | ldiv =>
    obtain rfl : len = 1 := am_beq_t hsw
    exact go_ldiv hG C hk hd hn h
  | lshl =>
    obtain rfl : len = 1 := am_beq_t hsw
    exact go_lshl hG C hk hd hn h
  | lshr =>
    obtain rfl : len = 1 := am_beq_t hsw
    exact go_lshr hG C hk hd hn h
  | lushr =>
    obtain rfl : len = 1 := am_beq_t hsw
    exact go_lushr hG C hk hd hn h
  | lcmp =>
    obtain rfl : len = 1 := am_beq_t hsw
    exact go_lcmp hG C hk hd hn h
  | ineg =>
    obtain rfl : len = 1 := am_beq_t hsw
    exact go_ineg hG C hk hd hn h
  | lneg =>
    obtain rfl : len = 1 := am_beq_t hsw
    exact go_lneg hG C hk hd hn h
  | i2l =>
    obtain rfl : len = 1 := am_beq_t hsw
    exact go_i2l hG C hk hd hn h
  | l2i =>
    obtain rfl : len = 1 := am_beq_t hsw
    exact go_l2i hG C hk hd hn h
  | i2b =>
    obtain rfl : len = 1 := am_beq_t hsw
    exact go_i2b hG C hk hd hn h
  | i2s =>
    obtain rfl : len = 1 := am_beq_t hsw
    exact go_i2s hG C hk hd hn h
  | i2c =>
    obtain rfl : len = 1 := am_beq_t hsw
    exact go_i2c hG C hk hd hn h
  | pop2 =>
    obtain rfl : len = 1 := am_beq_t hsw
    exact go_pop2 hG C hk hd hn h
  | dup =>
    obtain rfl : len = 1 := am_beq_t hsw
    exact go_dup hG C hk (am_hF C) hd hn h
  | dup2 =>
    obtain rfl : len = 1 := am_beq_t hsw
    exact go_dup2 hG C hk (am_hF C) hd hn h
  | pop =>
    obtain rfl : len = 1 := am_beq_t hsw
    exact go_pop hG C hk (am_hF C) hd hn h
  | iconst z =>
    obtain rfl : len = 1 := am_beq_t hsw
    exact go_iconst hG C hk hd hn h
  | bipush z =>
    obtain rfl : len = 2 := am_beq_t hsw
    exact go_bipush hG C hk hd hn h
  | sipush z =>
    obtain rfl : len = 3 := am_beq_t hsw
    exact go_sipush hG C hk hd hn h
  | lconst z =>
    obtain rfl : len = 1 := am_beq_t hsw
    exact go_lconst hG C hk hd hn h
  | iload j =>
    obtain rfl : len = 2 := am_beq_t hsw
    exact go_iload hG C hk hd hn h
  | lload j =>
    obtain rfl : len = 2 := am_beq_t hsw
    exact go_lload hG C hk hd hn h
  | aload j =>
    obtain rfl : len = 2 := am_beq_t hsw
    exact go_aload hG C hk hd hn h
  | iload_n j =>
    obtain rfl : len = 1 := am_beq_t hsw
    exact go_iload_n hG C hk hd hn h
  | lload_n j =>
    obtain rfl : len = 1 := am_beq_t hsw
    exact go_lload_n hG C hk hd hn h
  | aload_n j =>
    obtain rfl : len = 1 := am_beq_t hsw
    exact go_aload_n hG C hk hd hn h
  | istore j =>
    obtain rfl : len = 2 := am_beq_t hsw
    exact go_istore hG C hk hd hn h
  | lstore j =>
    obtain rfl : len = 2 := am_beq_t hsw
    exact go_lstore hG C hk hd hn h
  | astore j =>
    obtain rfl : len = 2 := am_beq_t hsw
    exact go_astore hG C hk hd hn h
  | istore_n j =>
    obtain rfl : len = 1 := am_beq_t hsw
    exact go_istore_n hG C hk hd hn h
  | lstore_n j =>
    obtain rfl : len = 1 := am_beq_t hsw
    exact go_lstore_n hG C hk hd hn h
  | astore_n j =>
    obtain rfl : len = 1 := am_beq_t hsw
    exact go_astore_n hG C hk hd hn h
  | iinc j ci =>
    obtain rfl : len = 3 := am_beq_t hsw
    exact go_iinc hG C hk hd hn h
  | aconst_null =>
    obtain rfl : len = 1 := am_beq_t hsw
    exact go_null hG C hk hd hn hx h
  | ldc j =>
    obtain rfl : len = 2 := am_beq_t hsw
    exact go_ldc hG C hk hd hn hx h
  | ldc_w j =>
    obtain rfl : len = 3 := am_beq_t hsw
    exact go_ldc_w hG C hk hd hn hx h
  | ldc2_w j =>
    obtain rfl : len = 3 := am_beq_t hsw
    exact go_ldc2 hG C hk hd hn hx h
  | getstatic j =>
    obtain rfl : len = 3 := am_beq_t hsw
    exact go_getstatic hG C hk hd hn hx h
  | goto o =>
    obtain rfl : len = 3 := am_beq_t hsw
    exact go_goto (nx := nx) hG C hk hd (of_decide_eq_true hx) h
  | ifCond cd o =>
    obtain rfl : len = 3 := am_beq_t hsw
    cases cd with
    | eq => exact go_ifCond_eq hG C hk hd hn (of_decide_eq_true hx) h
    | ne => exact go_ifCond_ne hG C hk hd hn (of_decide_eq_true hx) h
    | lt => exact go_ifCond_lt hG C hk hd hn (of_decide_eq_true hx) h
    | ge => exact go_ifCond_ge hG C hk hd hn (of_decide_eq_true hx) h
    | gt => exact go_ifCond_gt hG C hk hd hn (of_decide_eq_true hx) h
    | le => exact go_ifCond_le hG C hk hd hn (of_decide_eq_true hx) h
  | if_icmp cd o =>
    obtain rfl : len = 3 := am_beq_t hsw
    cases cd with
    | eq => exact go_if_icmp_eq hG C hk hd hn (of_decide_eq_true hx) h
    | ne => exact go_if_icmp_ne hG C hk hd hn (of_decide_eq_true hx) h
    | lt => exact go_if_icmp_lt hG C hk hd hn (of_decide_eq_true hx) h
    | ge => exact go_if_icmp_ge hG C hk hd hn (of_decide_eq_true hx) h
    | gt => exact go_if_icmp_gt hG C hk hd hn (of_decide_eq_true hx) h
    | le => exact go_if_icmp_le hG C hk hd hn (of_decide_eq_true hx) h
  | ifnonnull o =>
    obtain rfl : len = 3 := am_beq_t hsw
    exact go_ifnonnull hG C hk hd hn (of_decide_eq_true hx) h
  | tableswitch o lo hi os =>
    exact go_tableswitch (nx := nx) hG C hk hd (of_decide_eq_true hx) h
  | lookupswitch o ps =>
    exact go_lookupswitch (nx := nx) hG C hk hd hx h
  | getfield j =>
    obtain rfl : len = 3 := am_beq_t hsw
    exact go_getfield hG C hk hd hn hx h
  | putfield j =>
    obtain rfl : len = 3 := am_beq_t hsw
    exact go_putfield hG C hk hmn hd hn hx h
  | arraylength =>
    obtain rfl : len = 1 := am_beq_t hsw
    exact go_arraylength hG C hk hd hn h
  | iaload =>
    obtain rfl : len = 1 := am_beq_t hsw
    obtain ⟨j, st1, e1, h1⟩ := am_i1_some h
    obtain ⟨t, rr, st2, e2, h2⟩ := am_v1_some h1
    subst e2
    subst e1
    clear h h1
    cases b1 : Nat.beq t 11 with
    | true =>
      rw [b1] at h2
      obtain rfl := am_beq_t b1
      exact go_iaload hG C hk rfl hd hn h2
    | false =>
      rw [b1] at h2
      obtain ⟨b2, h3⟩ := am_bif_some h2
      obtain rfl := am_beq_t b2
      exact go_ialoadk hG C hk rfl hd hn h3
  | laload =>
    obtain rfl : len = 1 := am_beq_t hsw
    obtain ⟨j, st1, e1, h1⟩ := am_i1_some h
    obtain ⟨t, rr, st2, e2, h2⟩ := am_v1_some h1
    subst e2
    subst e1
    clear h h1
    obtain ⟨b2, h3⟩ := am_bif_some h2
    obtain rfl := am_beq_t b2
    exact go_laload hG C hk rfl hd hn h3
  | aaload =>
    obtain rfl : len = 1 := am_beq_t hsw
    obtain ⟨j, st1, e1, h1⟩ := am_i1_some h
    obtain ⟨t, rr, st2, e2, h2⟩ := am_v1_some h1
    subst e2
    subst e1
    clear h h1
    obtain ⟨b2, h3⟩ := am_bif_some h2
    obtain rfl := am_beq_t b2
    exact go_aaload hG C hk rfl hd hn h3
  | baload =>
    obtain rfl : len = 1 := am_beq_t hsw
    obtain ⟨j, st1, e1, h1⟩ := am_i1_some h
    obtain ⟨t, rr, st2, e2, h2⟩ := am_v1_some h1
    subst e2
    subst e1
    clear h h1
    cases b1 : (Nat.beq t 13 || Nat.beq t 14) with
    | true =>
      rw [b1] at h2
      rw [Bool.or_eq_true] at b1
      rcases b1 with b1 | b1
      · obtain rfl := am_beq_t b1
        exact go_baload hG C hk rfl hd hn h2
      · obtain rfl := am_beq_t b1
        exact go_zaload hG C hk rfl hd hn h2
    | false =>
      rw [b1] at h2
      obtain ⟨b2, h3⟩ := am_bif_some h2
      obtain rfl := am_beq_t b2
      exact go_baloadk hG C hk rfl hd hn h3
  | iastore =>
    obtain rfl : len = 1 := am_beq_t hsw
    obtain ⟨v, st0, e0, h0⟩ := am_i1_some h
    obtain ⟨j, st1, e1, h1⟩ := am_i1_some h0
    obtain ⟨t, rr, st2, e2, h2⟩ := am_v1_some h1
    subst e2
    subst e1
    subst e0
    clear h h0 h1
    obtain ⟨b2, h3⟩ := am_bif_some h2
    obtain rfl := am_beq_t b2
    exact go_iastore hG C hk rfl hd hn h3
  | lastore =>
    obtain rfl : len = 1 := am_beq_t hsw
    obtain ⟨v, st0, e0, h0⟩ := am_l1_some h
    obtain ⟨j, st1, e1, h1⟩ := am_i1_some h0
    obtain ⟨t, rr, st2, e2, h2⟩ := am_v1_some h1
    subst e2
    subst e1
    subst e0
    clear h h0 h1
    obtain ⟨b2, h3⟩ := am_bif_some h2
    obtain rfl := am_beq_t b2
    exact go_lastore hG C hk rfl hd hn h3
  | bastore =>
    obtain rfl : len = 1 := am_beq_t hsw
    obtain ⟨v, st0, e0, h0⟩ := am_i1_some h
    obtain ⟨j, st1, e1, h1⟩ := am_i1_some h0
    obtain ⟨t, rr, st2, e2, h2⟩ := am_v1_some h1
    subst e2
    subst e1
    subst e0
    clear h h0 h1
    cases b1 : Nat.beq t 13 with
    | true =>
      rw [b1] at h2
      obtain rfl := am_beq_t b1
      exact go_bastore hG C hk rfl hd hn h2
    | false =>
      rw [b1] at h2
      obtain ⟨b2, h3⟩ := am_bif_some h2
      obtain rfl := am_beq_t b2
      exact go_zastore hG C hk rfl hd hn h3
  | aastore =>
    obtain rfl : len = 1 := am_beq_t hsw
    obtain ⟨u, v, st0, e0, h0⟩ := am_v1_some h
    obtain ⟨j, st1, e1, h1⟩ := am_i1_some h0
    obtain ⟨t, rr, st2, e2, h2⟩ := am_v1_some h1
    subst e2
    subst e1
    subst e0
    clear h h0 h1
    obtain ⟨b2, h3⟩ := am_bif_some h2
    obtain ⟨hv0, h4⟩ := am_if_some h3
    simp only [Bool.and_eq_true] at b2
    obtain ⟨b3, b4, b5⟩ := b2
    obtain rfl := am_beq_t b4
    obtain rfl := am_beq_t b5
    have hmd : md = false := by cases md with
      | false => rfl
      | true => cases b3
    exact go_aastore hG C hk rfl hmd hv0 hd hn h4
  | new j =>
    obtain rfl : len = 3 := am_beq_t hsw
    exact go_new hG C hk hR hd hn hx h
  | newarray t =>
    obtain rfl : len = 2 := am_beq_t hsw
    cases t with
    | int =>
      have h : (am_i1 st fun j st => bif Nat.beq (am_tag n) x.1 then am_if (j = am_len n) (am_m (am_new σ n) fun σ => k (nx, L, (x.1, (n : Int)) :: st, σ, n + 1)) else none) = some r := h
      rw [am_beq_t hx] at h
      exact go_newarray_int hG C hk hR hd hn h
    | long =>
      have h : (am_i1 st fun j st => bif Nat.beq (am_tag n) x.1 then am_if (j = am_len n) (am_m (am_new σ n) fun σ => k (nx, L, (x.1, (n : Int)) :: st, σ, n + 1)) else none) = some r := h
      rw [am_beq_t hx] at h
      exact go_newarray_long hG C hk hR hd hn h
    | byte =>
      have h : (am_i1 st fun j st => bif Nat.beq (am_tag n) x.1 then am_if (j = am_len n) (am_m (am_new σ n) fun σ => k (nx, L, (x.1, (n : Int)) :: st, σ, n + 1)) else none) = some r := h
      rw [am_beq_t hx] at h
      exact go_newarray_byte hG C hk hR hd hn h
    | boolean =>
      have h : (am_i1 st fun j st => bif Nat.beq (am_tag n) x.1 then am_if (j = am_len n) (am_m (am_new σ n) fun σ => k (nx, L, (x.1, (n : Int)) :: st, σ, n + 1)) else none) = some r := h
      rw [am_beq_t hx] at h
      exact go_newarray_boolean hG C hk hR hd hn h
    | _ => cases hx
  | anewarray j =>
    obtain rfl : len = 3 := am_beq_t hsw
    exact go_anewarray hG C hk hR hd hn hx h
  | invokevirtual j =>
    obtain rfl : len = 3 := am_beq_t hsw
    have hx : (!Nat.beq x.2.1 99 && (Nat.beq x.2.1 99 || (am_okc (am_own y) j x.1 0 && Nat.blt x.1 278 && Nat.beq (am_npar x.1 + 1) x.2.1 && Nat.beq (am_rkt (am_rk x.1)) x.2.2.2 && ((Nat.blt (am_own x.1) 11 && Nat.beq x.2.2.1 (100 + am_own x.1)) || (Nat.beq x.2.2.1 16 && Nat.beq (am_own x.1) 14))))) = true := hx
    rw [Bool.and_eq_true] at hx
    exact go_invokevirtual hG C hk hcall hR hd hn (am_276v (am_y18 C.2.2.2.2.2.2.2) hx.2) (am_n99 hx.1) h
  | invokestatic j =>
    obtain rfl : len = 3 := am_beq_t hsw
    have hx : (!Nat.beq x.2.1 99 && (Nat.beq x.2.1 99 || (bif Nat.beq x.2.2.1 6 then am_okc (am_own y) j 0 6 else bif Nat.beq x.2.2.1 7 then am_okc (am_own y) j x.1 7 && Nat.blt x.1 4 else (am_okc (am_own y) j x.1 1 || am_okc (am_own y) j x.1 3) && Nat.blt x.1 278 && Nat.beq (am_npar x.1) x.2.1 && Nat.beq (am_rkt (am_rk x.1)) x.2.2.2))) = true := hx
    rw [Bool.and_eq_true] at hx
    obtain ⟨h99, hx⟩ := hx
    rw [am_beq_n (am_n99 h99), Bool.false_or] at hx
    cases h6 : Nat.beq x.2.2.1 6 with
    | true =>
      rw [h6] at hx
      have h : (bif Nat.beq x.2.2.1 6 then am_acp st (fun st σ => k (nx, L, st, σ, n)) σ else bif Nat.beq x.2.2.1 7 then am_mth x.1 st (fun st => k (nx, L, st, σ, n)) else am_doS call x.1 x.2.1 x.2.2.2 st (fun st σ n => k (nx, L, st, σ, n)) σ n) = some r := h
      rw [h6] at h
      exact go_acp hG C hk hR hd hn hx h
    | false =>
      rw [h6] at hx
      have h : (bif Nat.beq x.2.2.1 6 then am_acp st (fun st σ => k (nx, L, st, σ, n)) σ else bif Nat.beq x.2.2.1 7 then am_mth x.1 st (fun st => k (nx, L, st, σ, n)) else am_doS call x.1 x.2.1 x.2.2.2 st (fun st σ n => k (nx, L, st, σ, n)) σ n) = some r := h
      rw [h6] at h
      cases h7 : Nat.beq x.2.2.1 7 with
      | true =>
        have hx : (bif Nat.beq x.2.2.1 7 then am_okc (am_own y) j x.1 7 && Nat.blt x.1 4 else (am_okc (am_own y) j x.1 1 || am_okc (am_own y) j x.1 3) && Nat.blt x.1 278 && Nat.beq (am_npar x.1) x.2.1 && Nat.beq (am_rkt (am_rk x.1)) x.2.2.2) = true := hx
        have h : (bif Nat.beq x.2.2.1 7 then am_mth x.1 st (fun st => k (nx, L, st, σ, n)) else am_doS call x.1 x.2.1 x.2.2.2 st (fun st σ n => k (nx, L, st, σ, n)) σ n) = some r := h
        rw [h7] at hx h
        exact go_mth hG C hk hR hd hn hx h
      | false =>
        have hx : (bif Nat.beq x.2.2.1 7 then am_okc (am_own y) j x.1 7 && Nat.blt x.1 4 else (am_okc (am_own y) j x.1 1 || am_okc (am_own y) j x.1 3) && Nat.blt x.1 278 && Nat.beq (am_npar x.1) x.2.1 && Nat.beq (am_rkt (am_rk x.1)) x.2.2.2) = true := hx
        have h : (bif Nat.beq x.2.2.1 7 then am_mth x.1 st (fun st => k (nx, L, st, σ, n)) else am_doS call x.1 x.2.1 x.2.2.2 st (fun st σ n => k (nx, L, st, σ, n)) σ n) = some r := h
        rw [h7] at hx h
        exact go_invokestatic hG C hk hcall hR hd hn (am_276s (am_y18 C.2.2.2.2.2.2.2) hx) h
  | invokespecial j =>
    obtain rfl : len = 3 := am_beq_t hsw
    have hx : (!Nat.beq x.2.1 99 && (Nat.beq x.2.1 99 || (bif Nat.beq x.2.2.1 5 then am_okc (am_own y) j 0 5 else (am_okc (am_own y) j x.1 2 || am_okc (am_own y) j x.1 4) && Nat.blt x.1 278 && Nat.beq (am_npar x.1 + 1) x.2.1 && Nat.beq (am_rk x.1) 9 && Nat.blt (am_own x.1) 11 && Nat.beq x.2.2.2 (100 + am_own x.1) && am_ini x.1))) = true := hx
    rw [Bool.and_eq_true] at hx
    obtain ⟨h99, hx⟩ := hx
    rw [am_beq_n (am_n99 h99), Bool.false_or] at hx
    have h : (bif Nat.beq x.2.2.1 5 then am_v1 st fun t r st => bif Nat.ble 100 t && Nat.ble (am_cat st) 8 then am_if (¬ r < 0) (k (nx, L, st, σ, n)) else none else am_do call x.1 x.2.1 9 (fun t => Nat.beq t x.2.2.2) st (fun st σ n => k (nx, L, st, σ, n)) σ n) = some r := h
    cases h5 : Nat.beq x.2.2.1 5 with
    | true =>
      rw [h5] at hx h
      exact go_objinit hG C hk hR hd hn hx h
    | false =>
      rw [h5] at hx h
      exact go_init hG C hk hcall hR hd hn (am_276i (am_y18 C.2.2.2.2.2.2.2) hx) h
  | ireturn =>
    obtain rfl : len = 1 := am_beq_t hsw
    exact go_ireturn (nx := nx) hG C hHR hnf hd h
  | lreturn =>
    obtain rfl : len = 1 := am_beq_t hsw
    exact go_lreturn (nx := nx) hG C hHR hnf hd h
  | areturn =>
    obtain rfl : len = 1 := am_beq_t hsw
    exact go_areturn (nx := nx) hG C hHR hnf hd h
  | return_ =>
    obtain rfl : len = 1 := am_beq_t hsw
    exact go_return (nx := nx) hG C hHR hnf hd h
  | _ => cases h
