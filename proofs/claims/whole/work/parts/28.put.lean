theorem am_ini_sys : Cond.initialized "java/lang/System" ∈ am_wa := am_wa_of (am_tb_in (i := 1) (List.mem_of_getElem? (i := 13) rfl)) (by decide +kernel)
theorem am_cp_ne {σ : am_M} {a sp b dp z i j : Nat} (h : i ≠ b) : am_cp σ a sp b dp z i j = σ i j := if_neg fun q => h q.1
theorem am_cp_at {σ : am_M} {a sp b dp z j : Nat} : am_cp σ a sp b dp z b j = if dp ≤ j ∧ j < dp + z then σ a (sp + (j - dp)) else σ b j := by
  unfold am_cp
  by_cases h : dp ≤ j ∧ j < dp + z
  · rw [if_pos ⟨rfl, h⟩, if_pos h]
  · rw [if_neg fun q => h q.2, if_neg h]
theorem am_cp_okM {σ : am_M} {n a sp b dp z : Nat} (h : am_okM n σ) (ha : a < n) (hs : sp + z ≤ am_len a) (hsl : ∀ i j, am_sl a i = am_sl b j) : am_okM n (am_cp σ a sp b dp z) := by
  intro i j hi hj
  by_cases e : i = b
  · subst e
    rw [am_cp_at]
    by_cases e2 : dp ≤ j ∧ j < dp + z
    · rw [if_pos e2, ← hsl (sp + (j - dp)) j]
      exact h a _ ha (by omega)
    · rw [if_neg e2]; exact h i j hi hj
  · rw [am_cp_ne e]; exact h i j hi hj
theorem am_cp_okF {σ : am_M} {md : Bool} {n a sp b dp z : Nat} (h : am_okF md n σ) (hv : ∀ j, am_isfn b j = false) : am_okF md n (am_cp σ a sp b dp z) := by
  intro hm i j hi hj
  by_cases e : i = b
  · subst e; rw [hv j] at hj; cases hj
  · rw [am_cp_ne e]; exact h hm i j hi hj
theorem am_not_lt {a : Int} (ha : am_r32 a) (h : 0 ≤ a) : ¬ Int32.ofInt a < 0 := by
  intro q
  have := (am_i_lt (b := 0) ha ⟨by decide, by decide⟩).mp q
  omega
theorem go_copy11 {p : Program} {l : Launch} {e : Env} {R : Room} {s : State} {m : MethodId} {args : Array Value} {below : List Frame} {meth : Method} {c : Code} {Q : State → Prop} {D : va_G} {B0 : Nat} {ka : Nat → Nat} {vF : Value} {md : Bool} {y n0 c0 s0 : Nat} {ad0 : Nat → Nat} {nf : Nat} {G : am_S → Prop} (hG : G = am_Go p l e R s m args below meth c Q D B0 ka vF md y n0 c0 s0 ad0 nf) (C : am_Cx p s m args c y B0 ka vF) {k : am_S → Option am_R} {r : am_R} (hk : ∀ S, k S = some r → G S) {pc nx : Nat} {L st : List am_V} {σ : am_M} {n : Nat} {d j : Nat} {z dp b sp a : Int} {st' : List am_V} (hst : st = (0, z) :: (0, dp) :: (11, b) :: (0, sp) :: (11, a) :: st') (hR : am_Rm R d c0 s0 n0 nf) (hc8 : am_cat st' ≤ 8) (hd : decode (am_by y) pc = .ok (.invokestatic j, 3)) (hn : nx = pc + 3) (hw : am_okc (am_own y) j 0 6 = true) (h : am_a a sp b dp z (am_m (am_cp σ a.toNat sp.toNat b.toNat dp.toNat z.toNat) fun σ => k (nx, L, st', σ, n)) = some r) : G (pc, L, st, σ, n) := by
  subst hn
  obtain ⟨⟨h0, h1, hs0, hd0, hz0, hs1, hd1⟩, h2⟩ := am_if_some h
  obtain ⟨f, hf, f1, f2, f3⟩ := am_cl_row (am_y18 C.2.2.2.2.2.2.2) hw
  have hws := am_cl_word (am_y18 C.2.2.2.2.2.2.2) hf
  unfold am_cws at hws
  rw [f1, f3] at hws
  have u1 := hws (f.2.2.2.1, Cond.methodLink (am_cn (am_own y)) j arraycopyName) List.mem_cons_self
  have u2 := hws (f.2.2.2.2.1, Cond.static arraycopyName) (List.mem_cons_of_mem _ List.mem_cons_self)
  have u3 := hws (f.2.2.2.2.2, Cond.native arraycopyName) (List.mem_cons_of_mem _ (List.mem_cons_of_mem _ List.mem_cons_self))
  refine go_mem hG C hk (us := [(0, z), (0, dp), (11, b), (0, sp), (11, a)]) (rest := st') hst (fun H locs cells slots ls ad cA tys P => ?_) h2
  subst hst
  obtain ⟨q1, ⟨w1, w2, w3, w4, w5, w6, w7⟩, q3, q4, q5, q6, q7⟩ := P
  have kz := am_ok_i (q6 (0, z) (by simp))
  have kd := am_ok_i (q6 (0, dp) (by simp))
  have ks := am_ok_i (q6 (0, sp) (by simp))
  obtain ⟨a1, a2, a3⟩ := am_okc_lt (t := 11) am_isr_a.1 (q6 (11, a) (by simp)) h0
  obtain ⟨b1, b2, b3⟩ := am_okc_lt (t := 11) am_isr_a.1 (q6 (11, b) (by simp)) h1
  obtain ⟨t0, ht0⟩ := w4 a.toNat a1 (by rw [a2]; decide)
  obtain ⟨t1, ht1⟩ := w4 b.toNat b1 (by rw [b2]; decide)
  rw [a2] at ht0
  rw [b2] at ht1
  have hcat := am_cat_sum (ka := ka) (ad := ad) (am_hF C) st'
  obtain ⟨r1, r2, r3, r4⟩ := hR
  refine ⟨am_cp_okM w5 a1 (by omega) (fun i j => by rw [am_sl_a (Or.inl a2), am_sl_a (Or.inl b2)]), am_cp_okF w6 (fun _ => am_isfn_a (by simp [b2])), fun K => ?_⟩
  have hset : ∀ E, am_en ka vF ad cA (am_cp σ a.toNat sp.toNat b.toNat dp.toNat z.toNat) b.toNat = E → (am_ws ka vF ad cA σ n).set b.toNat (ad b.toNat, E) = am_ws ka vF ad cA (am_cp σ a.toNat sp.toNat b.toNat dp.toNat z.toNat) n := fun E hE => am_ws_set b1 hE (fun i' j' hi => am_cp_ne hi)
  show W p l e R s m args below meth c H locs cells slots Q (F0 m pc ls (.int (Int32.ofInt z) :: .int (Int32.ofInt dp) :: am_cv ka vF ad (11, b) :: .int (Int32.ofInt sp) :: am_cv ka vF ad (11, a) :: st'.map (am_cv ka vF ad)))
  rw [am_cv_r (t := 11) am_isr_a.1 h0 (by omega), am_cv_r (t := 11) am_isr_a.1 h1 (by omega)]
  refine va_copyi C.1 C.2.1 (by rw [C.2.2.1]; exact q3.1.symm) C.2.2.2.1 (C.2.2.2.2.1 _ u1) (C.2.2.2.2.1 _ u3) (C.2.2.2.2.1 _ u2) (C.2.2.2.2.1 _ am_ini_sys) w3 w1 w2 q1 a.toNat b.toNat t0 t1 ((am_ws_at a1).trans (by rw [am_en_i (Or.inl a2)])) ((am_ws_at b1).trans (by rw [am_en_i (Or.inl b2)])) ht0 ht1 rfl (am_not_lt ks hs0) (am_not_lt kd hd0) (am_not_lt kz hz0) (by rw [am_i_cl ks hs0, am_i_cl kz hz0]; omega) (by rw [am_i_cl kd hd0, am_i_cl kz hz0]; omega) (fun _ _ => rfl) (by omega) (by show (List.map (fun v => v.category) (st'.map (am_cv ka vF ad))).sum + (7 + 11) ≤ R.locals; rw [hcat]; omega) hd (fun H1 locs1 e1 e2 e3 => ?_)
  rw [hset] at e1 e2
  · exact K H1 locs1 e1 e2 e3
  all_goals
    rw [am_en_i (Or.inl b2)]
    refine congrArg (fun f => (Sum.inl (cA b.toNat, am_len b.toNat, Sum.inl f) : va_E)) (funext fun j' => ?_)
    rw [am_cp_at, am_i_cl ks hs0, am_i_cl kd hd0, am_i_cl kz hz0]
    unfold va_cpy
    split <;> rfl
theorem go_copy12 {p : Program} {l : Launch} {e : Env} {R : Room} {s : State} {m : MethodId} {args : Array Value} {below : List Frame} {meth : Method} {c : Code} {Q : State → Prop} {D : va_G} {B0 : Nat} {ka : Nat → Nat} {vF : Value} {md : Bool} {y n0 c0 s0 : Nat} {ad0 : Nat → Nat} {nf : Nat} {G : am_S → Prop} (hG : G = am_Go p l e R s m args below meth c Q D B0 ka vF md y n0 c0 s0 ad0 nf) (C : am_Cx p s m args c y B0 ka vF) {k : am_S → Option am_R} {r : am_R} (hk : ∀ S, k S = some r → G S) {pc nx : Nat} {L st : List am_V} {σ : am_M} {n : Nat} {d j : Nat} {z dp b sp a : Int} {st' : List am_V} (hst : st = (0, z) :: (0, dp) :: (12, b) :: (0, sp) :: (12, a) :: st') (hR : am_Rm R d c0 s0 n0 nf) (hc8 : am_cat st' ≤ 8) (hd : decode (am_by y) pc = .ok (.invokestatic j, 3)) (hn : nx = pc + 3) (hw : am_okc (am_own y) j 0 6 = true) (h : am_a a sp b dp z (am_m (am_cp σ a.toNat sp.toNat b.toNat dp.toNat z.toNat) fun σ => k (nx, L, st', σ, n)) = some r) : G (pc, L, st, σ, n) := by
  subst hn
  obtain ⟨⟨h0, h1, hs0, hd0, hz0, hs1, hd1⟩, h2⟩ := am_if_some h
  obtain ⟨f, hf, f1, f2, f3⟩ := am_cl_row (am_y18 C.2.2.2.2.2.2.2) hw
  have hws := am_cl_word (am_y18 C.2.2.2.2.2.2.2) hf
  unfold am_cws at hws
  rw [f1, f3] at hws
  have u1 := hws (f.2.2.2.1, Cond.methodLink (am_cn (am_own y)) j arraycopyName) List.mem_cons_self
  have u2 := hws (f.2.2.2.2.1, Cond.static arraycopyName) (List.mem_cons_of_mem _ List.mem_cons_self)
  have u3 := hws (f.2.2.2.2.2, Cond.native arraycopyName) (List.mem_cons_of_mem _ (List.mem_cons_of_mem _ List.mem_cons_self))
  refine go_mem hG C hk (us := [(0, z), (0, dp), (12, b), (0, sp), (12, a)]) (rest := st') hst (fun H locs cells slots ls ad cA tys P => ?_) h2
  subst hst
  obtain ⟨q1, ⟨w1, w2, w3, w4, w5, w6, w7⟩, q3, q4, q5, q6, q7⟩ := P
  have kz := am_ok_i (q6 (0, z) (by simp))
  have kd := am_ok_i (q6 (0, dp) (by simp))
  have ks := am_ok_i (q6 (0, sp) (by simp))
  obtain ⟨a1, a2, a3⟩ := am_okc_lt (t := 12) am_isr_a.2.1 (q6 (12, a) (by simp)) h0
  obtain ⟨b1, b2, b3⟩ := am_okc_lt (t := 12) am_isr_a.2.1 (q6 (12, b) (by simp)) h1
  obtain ⟨t0, ht0⟩ := w4 a.toNat a1 (by rw [a2]; decide)
  obtain ⟨t1, ht1⟩ := w4 b.toNat b1 (by rw [b2]; decide)
  rw [a2] at ht0
  rw [b2] at ht1
  have hcat := am_cat_sum (ka := ka) (ad := ad) (am_hF C) st'
  obtain ⟨r1, r2, r3, r4⟩ := hR
  refine ⟨am_cp_okM w5 a1 (by omega) (fun i j => by rw [am_sl_12 a2, am_sl_12 b2]), am_cp_okF w6 (fun _ => am_isfn_a (by simp [b2])), fun K => ?_⟩
  have hset : ∀ E, am_en ka vF ad cA (am_cp σ a.toNat sp.toNat b.toNat dp.toNat z.toNat) b.toNat = E → (am_ws ka vF ad cA σ n).set b.toNat (ad b.toNat, E) = am_ws ka vF ad cA (am_cp σ a.toNat sp.toNat b.toNat dp.toNat z.toNat) n := fun E hE => am_ws_set b1 hE (fun i' j' hi => am_cp_ne hi)
  show W p l e R s m args below meth c H locs cells slots Q (F0 m pc ls (.int (Int32.ofInt z) :: .int (Int32.ofInt dp) :: am_cv ka vF ad (12, b) :: .int (Int32.ofInt sp) :: am_cv ka vF ad (12, a) :: st'.map (am_cv ka vF ad)))
  rw [am_cv_r (t := 12) am_isr_a.2.1 h0 (by omega), am_cv_r (t := 12) am_isr_a.2.1 h1 (by omega)]
  refine va_copyl C.1 C.2.1 (by rw [C.2.2.1]; exact q3.1.symm) C.2.2.2.1 (C.2.2.2.2.1 _ u1) (C.2.2.2.2.1 _ u3) (C.2.2.2.2.1 _ u2) (C.2.2.2.2.1 _ am_ini_sys) w3 w1 w2 q1 a.toNat b.toNat t0 t1 ((am_ws_at a1).trans (by rw [am_en_l a2])) ((am_ws_at b1).trans (by rw [am_en_l b2])) ht0 ht1 rfl (am_not_lt ks hs0) (am_not_lt kd hd0) (am_not_lt kz hz0) (by rw [am_i_cl ks hs0, am_i_cl kz hz0]; omega) (by rw [am_i_cl kd hd0, am_i_cl kz hz0]; omega) (fun _ _ => rfl) (by omega) (by show (List.map (fun v => v.category) (st'.map (am_cv ka vF ad))).sum + (7 + 11) ≤ R.locals; rw [hcat]; omega) hd (fun H1 locs1 e1 e2 e3 => ?_)
  rw [hset] at e1 e2
  · exact K H1 locs1 e1 e2 e3
  all_goals
    rw [am_en_l b2]
    refine congrArg (fun f => (Sum.inl (cA b.toNat, am_len b.toNat, Sum.inr (Sum.inl f)) : va_E)) (funext fun j' => ?_)
    rw [am_cp_at, am_i_cl ks hs0, am_i_cl kd hd0, am_i_cl kz hz0]
    unfold va_cpy
    split <;> rfl
