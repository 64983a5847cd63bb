theorem am_oi_code : Cond.code objectInit ⟨#[0xb1]⟩ 1 none ∈ am_wa := am_wa_of (am_tb_in (i := 1) (List.mem_of_getElem? (i := 27) rfl)) rfl
theorem go_init {p : Program} {l : Launch} {e : Env} {R : Room} {s : State} {m : MethodId} {args : Array Value} {below : List Frame} {meth : Method} {c : Code} {Q : State → Prop} {D : va_G} {B0 : Nat} {ka : Nat → Nat} {vF : Value} {md : Bool} {y n0 c0 s0 : Nat} {ad0 : Nat → Nat} {nf : Nat} {G : am_S → Prop} (hG : G = am_Go p l e R s m args below meth c Q D B0 ka vF md y n0 c0 s0 ad0 nf) (C : am_Cx p s m args c y B0 ka vF) {k : am_S → Option am_R} {r : am_R} (hk : ∀ S, k S = some r → G S) {pc nx : Nat} {L st : List am_V} {σ : am_M} {n : Nat} {d j : Nat} {x : Nat × Nat × Nat × Nat} {call : am_C} (hcall : ∀ (y' : Nat), y' < 277 → ∀ (as : List am_V) (σ : am_M) (n : Nat) (q : am_R), call y' as σ n = some q → ∃ d', d = d' + 1 ∧ am_MO l D B0 ka vF md d' y' as σ n q) (hR : am_Rm R d c0 s0 n0 nf) (hd : decode (am_by y) pc = .ok (.invokespecial j, 3)) (hn : nx = pc + 3) (hx : ((am_okc (am_own y) j x.1 2 || am_okc (am_own y) j x.1 4) && Nat.blt x.1 277 && Nat.beq (am_npar x.1 + 1) x.2.1 && Nat.beq (am_rk x.1) 9 && Nat.blt (am_own x.1) 11 && Nat.beq x.2.2.2 (100 + am_own x.1) && am_ini x.1) = true) (h : am_do call x.1 x.2.1 9 (fun t => Nat.beq t x.2.2.2) st (fun st σ n => k (nx, L, st, σ, n)) σ n = some r) : G (pc, L, st, σ, n) := by
  subst hn
  simp only [Bool.and_eq_true] at hx
  obtain ⟨⟨⟨⟨⟨⟨hx1, hx2⟩, hx3⟩, hx4⟩, hx5⟩, hx6⟩, hx7⟩ := hx
  have hy := am_blt_lt hx2
  obtain ⟨t, z, as, rest, q, est, hlen, ht, hcat, hz, hq, hk1⟩ := am_do_some h
  obtain ⟨d', hdd, hnq, hM⟩ := hcall _ hy _ _ _ _ hq
  have hgo := hk _ hk1
  subst hG
  have hqf : q.2.2 ≤ nf := hgo.1
  refine ⟨Nat.le_trans hnq hqf, fun H locs cells slots ls ad cA tys P => ?_⟩
  have hcls := am_y_cls x.1 (by omega)
  have hown := am_y_own x.1 (by omega)
  have hpl := am_cn_plain (am_own x.1) hown.1 hown.2.1
  have hnm := am_ini_ok x.1 (by omega) hx7
  have hrk := am_beq_t hx4
  have hrt : am_rt x.1 = none := by rw [am_rt_rk x.1 (by omega), hrk]; rfl
  have P' : am_Pt s D B0 ka vF md y n0 c0 s0 ad0 ls L ((as.reverse ++ [(t, z)]) ++ rest) σ n H locs cells slots ad cA tys := by
    have : (as.reverse ++ [(t, z)]) ++ rest = st := by rw [est, List.append_assoc]; rfl
    rw [this]; exact P
  have P2 := P'
  obtain ⟨q1, hWd, q3, q4, q5, q6, g1, g2, g3, g4⟩ := P2
  have hroom := am_room (y := x.1) hR hdd hnq hqf g1 (by omega) g3 g4
  have c1 := am_blt_lt hx5
  have et : t = 100 + am_own x.1 := (am_beq_t ht).trans (am_beq_t hx6)
  subst et
  obtain ⟨a1, a2, a3⟩ := am_okc_lt (am_isr_o c1) (q6 (100 + am_own x.1, z) (by simp)) hz
  have hb := am_cv_r (ka := ka) (vF := vF) (ad := ad) (am_isr_o c1) hz (by have := hWd.2.2.2.2.2.2; omega)
  have hst : (st.map (am_cv ka vF ad)) = (as.map (am_cv ka vF ad)).reverse ++ .ref (ad z.toNat) :: rest.map (am_cv ka vF ad) := by
    rw [est, List.map_append, List.map_cons, hb, List.map_reverse]
  have hMet := hM ad cA tys (fun v hv => q6 v (by
    rcases List.mem_cons.mp hv with e | hv
    · rw [e]; simp
    · simp [hv]))
  rw [hrk] at hMet
  refine am_after (us := as.reverse ++ [(100 + am_own x.1, z)]) (rest := rest) (rt := 9) (a := (Value.ref (ad z.toNat) :: as.map (am_cv ka vF ad)).toArray) hnq hgo P' ?_
  have hav : (Value.ref (ad z.toNat) :: as.map (am_cv ka vF ad)).toArray = (((100 + am_own x.1, z) :: as).map (am_cv ka vF ad)).toArray := by rw [List.map_cons, hb]
  have hwy : am_wy x.1 = Cond.code (am_nm x.1) (am_by x.1) (am_ml x.1) none :: am_wa := by unfold am_wy; rw [hrt]
  have hlen2 : (as.map (am_cv ka vF ad)).length = am_npar x.1 := by rw [List.length_map]; have := am_beq_t hx3; omega
  rw [Bool.or_eq_true] at hx1
  rcases hx1 with hx1 | hx1
  · obtain ⟨f, hf, f1, f2, f3⟩ := am_cl_row (am_y18 C.2.2.2.2.2.2.2) hx1
    have hws := am_cl_word (am_y18 C.2.2.2.2.2.2.2) hf
    unfold am_cws at hws
    rw [f1, f2, f3] at hws
    have u1 := hws (f.2.2.2.1, Cond.methodLink (am_cn (am_own y)) j (am_nm x.1)) List.mem_cons_self
    have u2 := hws (f.2.2.2.2.1, Cond.instanceMethod (am_nm x.1)) (List.mem_cons_of_mem _ List.mem_cons_self)
    exact va_runI (As := as.map (am_cv ka vF ad)) (b := ad z.toNat) (own := am_cn (am_own y)) (index := j) (Ts := am_wa) (n := am_npar x.1) ⟨C.1, C.2.1, C.2.2.1, C.2.2.2.1, C.2.2.2.2.1⟩ hMet
      (cwI (ws' := am_wa) (bytes := am_by x.1) (maxL := am_ml x.1) (am_npar x.1) C.2.2.2.2.1 (am_good (am_wy_in hy)) hwy rfl rfl (by rw [hcls]; exact C.2.2.2.2.1 _ (am_ini_word hown.1)) (C.2.2.2.2.1 _ u1) (C.2.2.2.2.1 _ u2) hnm ⟨by rw [hcls]; exact hpl.2.1, by rw [hcls]; exact hpl.2.2, am_y_par x.1 (by omega)⟩ hroom.1)
      ⟨am_Pc_blind, fun U hU hw => am_pre q1 C.2.2.2.2.2.2.1 C.2.2.2.2.2.1 hWd hU hw hav⟩ rfl hlen2 q3.1 hst (lv_room (by rw [am_cat_sum (am_hF C)]; exact hcat)) hd hroom.2
  · obtain ⟨f, hf, f1, f2, f3⟩ := am_cl_row (am_y18 C.2.2.2.2.2.2.2) hx1
    have hnest := am_cn_nest (am_y18 C.2.2.2.2.2.2.2) hf (Or.inr f3)
    rw [f1, f2] at hnest
    have hws := am_cl_word (am_y18 C.2.2.2.2.2.2.2) hf
    unfold am_cws at hws
    rw [f2, f3] at hws
    have u2 := hws (f.2.2.2.2.1, Cond.instanceMethod (am_nm x.1)) List.mem_cons_self
    exact va_runIN (As := as.map (am_cv ka vF ad)) (b := ad z.toNat) (own := am_cn (am_own y)) (index := j) (Ts := am_wa) (n := am_npar x.1) ⟨C.1, C.2.1, C.2.2.1, C.2.2.2.1, C.2.2.2.2.1⟩ hMet
      ⟨va_cnB (ws' := am_wa) (bytes := am_by x.1) (maxL := am_ml x.1) (ret := none) (am_npar x.1) C.2.2.2.2.1 (am_good (am_wy_in hy)) hwy rfl rfl (C.2.2.2.2.2.1.2.2.2.2.2.2.1 _ hnest) (by rw [hcls]; exact C.2.2.2.2.1 _ (am_ini_word hown.1)) ⟨by rw [hcls]; exact hpl.2.1, by rw [hcls]; exact hpl.2.2, am_y_par x.1 (by omega)⟩ hroom.1, hnm, C.2.2.2.2.1 _ u2⟩
      ⟨am_Pc_blind, fun U hU hw => am_pre q1 C.2.2.2.2.2.2.1 C.2.2.2.2.2.1 hWd hU hw hav⟩ rfl hlen2 q3.1 hst (lv_room (by rw [am_cat_sum (am_hF C)]; exact hcat)) hd hroom.2
