theorem am_good {ws : List Cond} (h : ∀ w ∈ ws, w ∈ am_wa) : GoodIn am_wa ws := fun w hw => ⟨h w hw, good_of_word (List.mem_filter.mp (h w hw)).2⟩
theorem am_wy_in {y : Nat} (h : y < 277) : ∀ w ∈ am_wy y, w ∈ am_wa := by
  intro w hw
  rcases List.mem_cons.mp hw with e | hw
  · rw [e]; exact am_cd_ok h
  · exact hw
theorem am_bind_some {x : Option am_R} {f : am_R → Option am_R} {r : am_R} (h : x.bind f = some r) : ∃ q, x = some q ∧ f q = some r := by
  cases x with
  | none => cases h
  | some q => exact ⟨q, rfl, h⟩
theorem am_do_some {call : am_C} {y a rt : Nat} {ok : Nat → Bool} {st : List am_V} {k : List am_V → am_M → Nat → Option am_R} {σ : am_M} {n : Nat} {r : am_R} (h : am_do call y a rt ok st k σ n = some r) :
    ∃ t z as rest q, st = as.reverse ++ (t, z) :: rest ∧ as.length + 1 = a ∧ ok t = true ∧ am_cat rest ≤ 8 ∧ ¬ z < 0 ∧ call y ((t, z) :: as) σ n = some q ∧ k (am_bk rt q.1 rest) q.2.1 q.2.2 = some r := by
  obtain ⟨us, rest, e1, e2, h1⟩ := am_pop_some h
  rw [List.append_nil] at h1
  obtain ⟨t, z, as, e3, h2⟩ := am_v1_some h1
  obtain ⟨hb, h3⟩ := am_bif_some h2
  obtain ⟨hz, h4⟩ := am_if_some h3
  obtain ⟨q, hq, h5⟩ := am_bind_some h4
  rw [Bool.and_eq_true] at hb
  have e4 : us = as.reverse ++ [(t, z)] := by
    have := congrArg List.reverse e3
    rw [List.reverse_reverse, List.reverse_cons] at this
    exact this
  refine ⟨t, z, as, rest, q, by rw [e1, e4, List.append_assoc]; rfl, by rw [← e2, e4]; simp, hb.1, Nat.le_of_ble_eq_true hb.2, hz, by rw [← e3]; exact hq, ?_⟩
  exact (am_back_bk rt q.1 rest (fun st => k st q.2.1 q.2.2)).symm.trans h5
theorem am_doS_some {call : am_C} {y a rt : Nat} {st : List am_V} {k : List am_V → am_M → Nat → Option am_R} {σ : am_M} {n : Nat} {r : am_R} (h : am_doS call y a rt st k σ n = some r) :
    ∃ as rest q, st = as.reverse ++ rest ∧ as.length = a ∧ am_cat rest ≤ 8 ∧ call y as σ n = some q ∧ k (am_bk rt q.1 rest) q.2.1 q.2.2 = some r := by
  obtain ⟨us, rest, e1, e2, h1⟩ := am_pop_some h
  rw [List.append_nil] at h1
  obtain ⟨hb, h3⟩ := am_bif_some h1
  obtain ⟨q, hq, h5⟩ := am_bind_some h3
  refine ⟨us.reverse, rest, q, by rw [List.reverse_reverse]; exact e1, by rw [List.length_reverse]; exact e2, Nat.le_of_ble_eq_true hb, hq, ?_⟩
  exact (am_back_bk rt q.1 rest (fun st => k st q.2.1 q.2.2)).symm.trans h5
theorem am_pre {D : va_G} {B0 : Nat} {ka : Nat → Nat} {vF : Value} {md : Bool} {s U : State} {H : Heap} {locs : List Loc} {σ : am_M} {n : Nat} {ad cA : Nat → Nat} {tys : List (ClassId × FieldType)} {as : List am_V} {av : Array Value} (hS : va_S (fun q => B0 ≤ q) s.heap H locs) (hB : B0 ≤ s.heap.size) (hSt : am_St B0 ka vF s s.heap) (hW : am_Wd D B0 ka vF md n σ ad cA tys s H) (hU : U.heap = H) (hw : s.WarmedH U.vm) (hav : av = (as.map (am_cv ka vF ad)).toArray) : am_Pc D B0 ka vF md as σ n ad cA tys av U := by
  obtain ⟨w1, w2, w3, w4⟩ := hW
  exact ⟨hav, am_St_warm hS hU hw hSt, by rw [hU]; exact Nat.le_trans hB hS.1, by rw [hU]; exact w1, w2, va_K.moved hw.alike w3, w4⟩
theorem am_room {R : Room} {d d' c0 s0 n0 n q nf y : Nat} {cells slots : Nat} (hR : am_Rm R d c0 s0 n0 nf) (hd : d = d' + 1) (hn : n ≤ q) (hq : q ≤ nf) (h0 : n0 ≤ n) (hy : y < 278) (hc : cells = c0 + (n - n0)) (hs : slots = s0 + (am_sz n - am_sz n0)) :
    (d' + 1 + 1 ≤ R.frames ∧ 8 + (am_ml y + 11) + (100 * d' + 100) ≤ R.locals) ∧ (cells + (q - n) ≤ R.cells ∧ slots + (am_sz q - am_sz n) ≤ R.slots) := by
  obtain ⟨r1, r2, r3, r4⟩ := hR
  have z1 := am_sz_mono hn
  have z2 := am_sz_mono hq
  have z3 := am_sz_mono h0
  have z4 := (am_y_own y hy).2.2
  refine ⟨⟨by omega, by omega⟩, by omega, by omega⟩
theorem go_invokevirtual {p : Program} {l : Launch} {e : Env} {R : Room} {s : State} {m : MethodId} {args : Array Value} {below : List Frame} {meth : Method} {c : Code} {Q : State → Prop} {D : va_G} {B0 : Nat} {ka : Nat → Nat} {vF : Value} {md : Bool} {y n0 c0 s0 : Nat} {ad0 : Nat → Nat} {nf : Nat} {G : am_S → Prop} (hG : G = am_Go p l e R s m args below meth c Q D B0 ka vF md y n0 c0 s0 ad0 nf) (C : am_Cx p s m args c y B0 ka vF) {k : am_S → Option am_R} {r : am_R} (hk : ∀ S, k S = some r → G S) {pc nx : Nat} {L st : List am_V} {σ : am_M} {n : Nat} {d j : Nat} {x : Nat × Nat × Nat × Nat} {call : am_C} (hcall : ∀ (y' : Nat), y' < 277 → ∀ (as : List am_V) (σ : am_M) (n : Nat) (q : am_R), call y' as σ n = some q → ∃ d', d = d' + 1 ∧ am_MO l D B0 ka vF md d' y' as σ n q) (hR : am_Rm R d c0 s0 n0 nf) (hd : decode (am_by y) pc = .ok (.invokevirtual j, 3)) (hn : nx = pc + 3) (hx : (Nat.beq x.2.1 99 || (am_okc (am_own y) j x.1 0 && Nat.blt x.1 277 && Nat.beq (am_npar x.1 + 1) x.2.1 && Nat.beq (am_rkt (am_rk x.1)) x.2.2.2 && ((Nat.blt (am_own x.1) 11 && Nat.beq x.2.2.1 (100 + am_own x.1)) || (Nat.beq x.2.2.1 16 && Nat.beq (am_own x.1) 14)))) = true) (h99 : x.2.1 ≠ 99) (h : am_do call x.1 x.2.1 x.2.2.2 (fun t => Nat.beq t x.2.2.1) st (fun st σ n => k (nx, L, st, σ, n)) σ n = some r) : G (pc, L, st, σ, n) := by
  subst hn
  rw [am_beq_n h99, Bool.false_or] at hx
  simp only [Bool.and_eq_true] at hx
  obtain ⟨⟨⟨⟨hx1, hx2⟩, hx3⟩, hx4⟩, hx5⟩ := hx
  have hy := am_blt_lt hx2
  obtain ⟨t, z, as, rest, q, est, hlen, ht, hcat, hz, hq, hk1⟩ := am_do_some h
  obtain ⟨d', hdd, hnq, hM⟩ := hcall _ hy _ _ _ _ hq
  have hgo := hk _ hk1
  subst hG
  have hqf : q.2.2 ≤ nf := hgo.1
  refine ⟨Nat.le_trans hnq hqf, fun H locs cells slots ls ad cA tys P => ?_⟩
  obtain ⟨f, hf, f1, f2, f3⟩ := am_cl_row (am_y18 C.2.2.2.2.2.2.2) hx1
  have hws := am_cl_word (am_y18 C.2.2.2.2.2.2.2) hf
  unfold am_cws at hws
  rw [f1, f2, f3] at hws
  have u1 := hws (f.2.2.2.1, Cond.methodLink (am_cn (am_own y)) j (am_nm x.1)) List.mem_cons_self
  have u2 := hws (f.2.2.2.2.1, Cond.instanceMethod (am_nm x.1)) (List.mem_cons_of_mem _ List.mem_cons_self)
  have u3 := hws (f.2.2.2.2.2, Cond.selects (am_nm x.1).cls (am_nm x.1) (am_nm x.1)) (List.mem_cons_of_mem _ (List.mem_cons_of_mem _ List.mem_cons_self))
  have hcls := am_y_cls x.1 (by omega)
  have hown := am_y_own x.1 (by omega)
  have hpl := am_cn_plain (am_own x.1) hown.1 hown.2.1
  rw [hcls] at u3
  have P' : am_Pt s D B0 ka vF md y n0 c0 s0 ad0 ls L ((as.reverse ++ [(t, z)]) ++ rest) σ n H locs cells slots ad cA tys := by
    have : (as.reverse ++ [(t, z)]) ++ rest = st := by rw [est, List.append_assoc]; rfl
    rw [this]; exact P
  have P2 := P'
  obtain ⟨q1, hWd, q3, q4, q5, q6, g1, g2, g3, g4⟩ := P2
  have w3 := hWd.2.2.1
  have w1 := hWd.1
  have hroom := am_room (y := x.1) hR hdd hnq hqf g1 (by omega) g3 g4
  have ht' := am_beq_t ht
  have hrecv : ∃ b, am_cv ka vF ad (t, z) = .ref b ∧ ∃ cellB : Cell, H[b]? = some cellB ∧ cellB.vm.isStatics = false ∧ s.vm.findClass (am_cn (am_own x.1)) = some cellB.cls := by
    rw [Bool.or_eq_true, Bool.and_eq_true, Bool.and_eq_true] at hx5
    have hz6 := q6 (t, z) (by simp)
    rcases hx5 with ⟨o1, o2⟩ | ⟨o1, o2⟩
    · have c1 := am_blt_lt o1
      have et : t = 100 + am_own x.1 := ht'.trans (am_beq_t o2)
      subst et
      obtain ⟨a1, a2, a3⟩ := am_okc_lt (am_isr_o c1) hz6 hz
      exact ⟨ad z.toNat, am_cv_r (am_isr_o c1) hz (by have := hWd.2.2.2.2.2.2; omega), va_recv w3 w1 (am_cl_at _ c1) ((am_ws_at a1).trans (by rw [am_en_o a2]))⟩
    · have et : t = 16 := ht'.trans (am_beq_t o1)
      subst et
      have hz2 : 2000 ≤ z ∧ z < 2008 := by
        unfold am_ok at hz6
        dsimp only at hz6
        rcases hz6 with w | w | w | w | w | w | w
        · exact absurd w.1 (by decide)
        · exact absurd w.1 (by decide)
        · exact w.2
        · exact absurd w (by decide)
        · exact absurd w.1 (by decide)
        · exact absurd w.1 (by decide)
        · exact absurd w.1 (by decide)
      have := vk_recv (H := H) (locs := locs) C.2.2.2.2.2.1.2.2.2.2.1 (i := z.toNat - 2000) (by omega) q1
      rw [am_beq_t o2]
      refine ⟨ka (2000 + (z.toNat - 2000)), ?_, this⟩
      rw [am_cv_k (Or.inl rfl) (by omega)]; exact congrArg (fun i => Value.ref (ka i)) (by omega)
  obtain ⟨b, hb, hcell⟩ := hrecv
  have hst : (st.map (am_cv ka vF ad)) = (as.map (am_cv ka vF ad)).reverse ++ .ref b :: rest.map (am_cv ka vF ad) := by
    rw [est, List.map_append, List.map_cons, hb, List.map_reverse]
  have hMet := hM ad cA tys (fun v hv => q6 v (by
    rcases List.mem_cons.mp hv with e | hv
    · rw [e]; simp
    · simp [hv]))
  rw [am_beq_t hx4] at hMet
  refine am_after (us := as.reverse ++ [(t, z)]) (rest := rest) (rt := x.2.2.2) (a := (Value.ref b :: as.map (am_cv ka vF ad)).toArray) hnq hgo P' ?_
  have hav : (Value.ref b :: as.map (am_cv ka vF ad)).toArray = (((t, z) :: as).map (am_cv ka vF ad)).toArray := by rw [List.map_cons, hb]
  exact va_runV (As := as.map (am_cv ka vF ad)) (b := b) (C := am_cn (am_own x.1)) (own := am_cn (am_own y)) (index := j) (Ts := am_wa) (n := am_npar x.1) ⟨C.1, C.2.1, C.2.2.1, C.2.2.2.1, C.2.2.2.2.1⟩ hMet
    (cwV (ws' := am_wa) (bytes := am_by x.1) (maxL := am_ml x.1) (ret := am_rt x.1) (am_npar x.1) C.2.2.2.2.1 (am_good (fun w hw => by
      unfold wsV at hw
      rcases List.mem_append.mp hw with hw | hw
      · simp only [List.mem_cons, List.not_mem_nil, or_false] at hw
        rcases hw with e | e | e | e
        · rw [e]; exact u1
        · rw [e]; exact u2
        · rw [e]; exact u3
        · rw [e]; exact am_ini_word hown.1
      · exact am_wy_in hy w hw)) rfl rfl rfl ⟨hcls, by rw [hcls]; exact hpl.2.1, by rw [hcls]; exact hpl.2.2, am_y_par x.1 (by omega)⟩ hroom.1)
    ⟨am_Pc_blind, hcell, fun U hU hw => am_pre q1 C.2.2.2.2.2.2.1 C.2.2.2.2.2.1 hWd hU hw hav⟩ rfl (by rw [List.length_map]; have := am_beq_t hx3; omega) q3.1 hst (lv_room (by rw [am_cat_sum (am_hF C)]; exact hcat)) hd hroom.2
theorem am_cn_nest {own : Nat} (hown : own < 18) {f : Nat × Nat × Nat × Nat × Nat × Nat} (hf : f ∈ am_clk own) (hk : f.2.2.1 = 3 ∨ f.2.2.1 = 4) : Cond.methodLinkNest (am_cn own) f.1 (am_nm f.2.1) "PlanMemo" ∈ am_nest :=
  am_cnl_ok own hown (f.2.2.2.1, .methodLinkNest (am_cn own) f.1 (am_nm f.2.1) "PlanMemo") (List.mem_map.mpr ⟨f, List.mem_filter.mpr ⟨hf, by rcases hk with e | e <;> rw [e] <;> rfl⟩, rfl⟩)
theorem go_invokestatic {p : Program} {l : Launch} {e : Env} {R : Room} {s : State} {m : MethodId} {args : Array Value} {below : List Frame} {meth : Method} {c : Code} {Q : State → Prop} {D : va_G} {B0 : Nat} {ka : Nat → Nat} {vF : Value} {md : Bool} {y n0 c0 s0 : Nat} {ad0 : Nat → Nat} {nf : Nat} {G : am_S → Prop} (hG : G = am_Go p l e R s m args below meth c Q D B0 ka vF md y n0 c0 s0 ad0 nf) (C : am_Cx p s m args c y B0 ka vF) {k : am_S → Option am_R} {r : am_R} (hk : ∀ S, k S = some r → G S) {pc nx : Nat} {L st : List am_V} {σ : am_M} {n : Nat} {d j : Nat} {x : Nat × Nat × Nat × Nat} {call : am_C} (hcall : ∀ (y' : Nat), y' < 277 → ∀ (as : List am_V) (σ : am_M) (n : Nat) (q : am_R), call y' as σ n = some q → ∃ d', d = d' + 1 ∧ am_MO l D B0 ka vF md d' y' as σ n q) (hR : am_Rm R d c0 s0 n0 nf) (hd : decode (am_by y) pc = .ok (.invokestatic j, 3)) (hn : nx = pc + 3) (hx : ((am_okc (am_own y) j x.1 1 || am_okc (am_own y) j x.1 3) && Nat.blt x.1 277 && Nat.beq (am_npar x.1) x.2.1 && Nat.beq (am_rkt (am_rk x.1)) x.2.2.2) = true) (h : am_doS call x.1 x.2.1 x.2.2.2 st (fun st σ n => k (nx, L, st, σ, n)) σ n = some r) : G (pc, L, st, σ, n) := by
  subst hn
  simp only [Bool.and_eq_true] at hx
  obtain ⟨⟨⟨hx1, hx2⟩, hx3⟩, hx4⟩ := hx
  have hy := am_blt_lt hx2
  obtain ⟨as, rest, q, est, hlen, hcat, hq, hk1⟩ := am_doS_some h
  obtain ⟨d', hdd, hnq, hM⟩ := hcall _ hy _ _ _ _ hq
  have hgo := hk _ hk1
  subst hG
  have hqf : q.2.2 ≤ nf := hgo.1
  refine ⟨Nat.le_trans hnq hqf, fun H locs cells slots ls ad cA tys P => ?_⟩
  have hcls := am_y_cls x.1 (by omega)
  have hown := am_y_own x.1 (by omega)
  have hpl := am_cn_plain (am_own x.1) hown.1 hown.2.1
  have P' : am_Pt s D B0 ka vF md y n0 c0 s0 ad0 ls L (as.reverse ++ rest) σ n H locs cells slots ad cA tys := by rw [← est]; exact P
  have P2 := P'
  obtain ⟨q1, hWd, q3, q4, q5, q6, g1, g2, g3, g4⟩ := P2
  have hroom := am_room (y := x.1) hR hdd hnq hqf g1 (by omega) g3 g4
  have hst : (st.map (am_cv ka vF ad)) = (as.map (am_cv ka vF ad)).reverse ++ rest.map (am_cv ka vF ad) := by
    rw [est, List.map_append, List.map_reverse]
  have hMet := hM ad cA tys (fun v hv => q6 v (by simp [hv]))
  rw [am_beq_t hx4] at hMet
  refine am_after (us := as.reverse) (rest := rest) (rt := x.2.2.2) (a := (as.map (am_cv ka vF ad)).toArray) hnq hgo P' ?_
  rw [Bool.or_eq_true] at hx1
  rcases hx1 with hx1 | hx1
  · obtain ⟨f, hf, f1, f2, f3⟩ := am_cl_row (am_y18 C.2.2.2.2.2.2.2) hx1
    have hws := am_cl_word (am_y18 C.2.2.2.2.2.2.2) hf
    unfold am_cws at hws
    rw [f1, f2, f3] at hws
    have u1 := hws (f.2.2.2.1, Cond.methodLink (am_cn (am_own y)) j (am_nm x.1)) List.mem_cons_self
    have u2 := hws (f.2.2.2.2.1, Cond.static (am_nm x.1)) (List.mem_cons_of_mem _ List.mem_cons_self)
    exact va_runS (As := as.map (am_cv ka vF ad)) (own := am_cn (am_own y)) (index := j) (Ts := am_wa) (n := am_npar x.1) ⟨C.1, C.2.1, C.2.2.1, C.2.2.2.1, C.2.2.2.2.1⟩ hMet
      (va_cwS (ws' := am_wa) (bytes := am_by x.1) (maxL := am_ml x.1) (ret := am_rt x.1) (am_npar x.1) C.2.2.2.2.1 (am_good (fun w hw => by
        unfold va_wsS at hw
        rcases List.mem_append.mp hw with hw | hw
        · simp only [List.mem_cons, List.not_mem_nil, or_false] at hw
          rcases hw with e | e | e
          · rw [e]; exact u1
          · rw [e]; exact u2
          · rw [e, hcls]; exact am_ini_word hown.1
        · exact am_wy_in hy w hw)) rfl rfl rfl ⟨by rw [hcls]; exact hpl.2.1, by rw [hcls]; exact hpl.2.2, am_y_par x.1 (by omega)⟩ hroom.1)
      ⟨am_Pc_blind, fun U hU hw => am_pre q1 C.2.2.2.2.2.2.1 C.2.2.2.2.2.1 hWd hU hw rfl⟩ rfl (by rw [List.length_map, hlen]; exact (am_beq_t hx3).symm) q3.1 hst (lv_room (by rw [am_cat_sum (am_hF C)]; exact hcat)) hd hroom.2
  · obtain ⟨f, hf, f1, f2, f3⟩ := am_cl_row (am_y18 C.2.2.2.2.2.2.2) hx1
    have hnest := am_cn_nest (am_y18 C.2.2.2.2.2.2.2) hf (Or.inl f3)
    rw [f1, f2] at hnest
    have hws := am_cl_word (am_y18 C.2.2.2.2.2.2.2) hf
    unfold am_cws at hws
    rw [f2, f3] at hws
    have u2 := hws (f.2.2.2.2.1, Cond.static (am_nm x.1)) List.mem_cons_self
    exact va_runSN (As := as.map (am_cv ka vF ad)) (own := am_cn (am_own y)) (index := j) (Ts := am_wa) (n := am_npar x.1) ⟨C.1, C.2.1, C.2.2.1, C.2.2.2.1, C.2.2.2.2.1⟩ hMet
      ⟨va_cnB (ws' := am_wa) (bytes := am_by x.1) (maxL := am_ml x.1) (ret := am_rt x.1) (am_npar x.1) C.2.2.2.2.1 (am_good (am_wy_in hy)) rfl rfl rfl (C.2.2.2.2.2.1.2.2.2.2.2.2.1 _ hnest) (by rw [hcls]; exact C.2.2.2.2.1 _ (am_ini_word hown.1)) ⟨by rw [hcls]; exact hpl.2.1, by rw [hcls]; exact hpl.2.2, am_y_par x.1 (by omega)⟩ hroom.1, C.2.2.2.2.1 _ u2, trivial⟩
      ⟨am_Pc_blind, fun U hU hw => am_pre q1 C.2.2.2.2.2.2.1 C.2.2.2.2.2.1 hWd hU hw rfl⟩ rfl (by rw [List.length_map, hlen]; exact (am_beq_t hx3).symm) q3.1 hst (lv_room (by rw [am_cat_sum (am_hF C)]; exact hcat)) hd hroom.2
