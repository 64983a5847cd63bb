def am_Rm (R : Room) (d c0 s0 n0 nf : Nat) : Prop := c0 + (nf - n0) ≤ R.cells ∧ s0 + (am_sz nf - am_sz n0) ≤ R.slots ∧ d + 1 ≤ R.frames ∧ 100 * d + 100 ≤ R.locals
theorem am_sz_mono {a b : Nat} (h : a ≤ b) : am_sz a ≤ am_sz b := by
  induction b with
  | zero => have : a = 0 := by omega
            subst this; exact Nat.le_refl _
  | succ b ih =>
    by_cases e : a = b + 1
    · subst e; exact Nat.le_refl _
    · have := ih (by omega)
      show am_sz a ≤ am_sz b + am_len b
      omega
theorem am_cat_sum {ka : Nat → Nat} {vF : Value} {ad : Nat → Nat} (hF : vF.category = 1) : ∀ st : List am_V, ((st.map (am_cv ka vF ad)).map fun v => v.category).sum = am_cat st := by
  intro st
  induction st with
  | nil => rfl
  | cons v st ih =>
    rw [List.map_cons, List.map_cons, List.sum_cons, ih, am_cv_cat hF]
    show _ = (bif Nat.beq v.1 1 then am_cat st + 2 else am_cat st + 1)
    cases h : Nat.beq v.1 1 with
    | true => show 2 + am_cat st = am_cat st + 2; omega
    | false => show 1 + am_cat st = am_cat st + 1; omega
theorem am_en_len {ka : Nat → Nat} {vF : Value} {ad cA : Nat → Nat} {σ : am_M} {i : Nat} (h : am_tag i = 11 ∨ am_tag i = 12 ∨ am_tag i = 13 ∨ am_tag i = 14 ∨ am_tag i = 15) : ∃ x : vp_A, am_en ka vF ad cA σ i = .inl (cA i, x) ∧ x.1 = am_len i := by
  rcases h with h | h | h | h | h
  · exact ⟨_, am_en_i (Or.inl h), rfl⟩
  · exact ⟨_, am_en_l h, rfl⟩
  · exact ⟨_, am_en_i (Or.inr (Or.inl h)), rfl⟩
  · exact ⟨_, am_en_i (Or.inr (Or.inr h)), rfl⟩
  · exact ⟨_, am_en_q h, rfl⟩
theorem am_len_r : ∀ i, i < 144 → am_len i < 40000 := by decide +kernel
theorem am_ofNat (q : Nat) : Int32.ofNat q = Int32.ofInt (q : Int) := rfl
theorem go_arraylength {p : Program} {l : Launch} {e : Env} {R : Room} {s : State} {m : MethodId} {args : Array Value} {below : List Frame} {meth : Method} {c : Code} {Q : State → Prop} {D : va_G} {B0 : Nat} {ka : Nat → Nat} {vF : Value} {md : Bool} {y n0 c0 s0 : Nat} {ad0 : Nat → Nat} {nf : Nat} {G : am_S → Prop} (hG : G = am_Go p l e R s m args below meth c Q D B0 ka vF md y n0 c0 s0 ad0 nf) (C : am_Cx p s m args c y B0 ka vF) {k : am_S → Option am_R} {r : am_R} (hk : ∀ S, k S = some r → G S) {pc nx : Nat} {L st : List am_V} {σ : am_M} {n : Nat} (hd : decode (am_by y) pc = .ok (.arraylength, 1)) (hn : nx = pc + 1) (h : (am_v1 st fun t r st => bif Nat.beq t 11 || (Nat.beq t 12 || (Nat.beq t 13 || (Nat.beq t 14 || Nat.beq t 15))) then am_if (¬ r < 0) (k (nx, L, (0, (am_len r.toNat : Int)) :: st, σ, n))
      else bif Nat.beq t 21 || Nat.beq t 23 then k (nx, L, (0, (am_len r.toNat : Int)) :: st, σ, n) else none) = some r) : G (pc, L, st, σ, n) := by
  subst hn
  obtain ⟨t, z, st', est, h1⟩ := am_v1_some h
  subst est
  clear h
  cases hb : (Nat.beq t 11 || (Nat.beq t 12 || (Nat.beq t 13 || (Nat.beq t 14 || Nat.beq t 15)))) with
  | true =>
    rw [hb] at h1
    obtain ⟨h0, h2⟩ := am_if_some h1
    have ht : t = 11 ∨ t = 12 ∨ t = 13 ∨ t = 14 ∨ t = 15 := by
      simp only [Bool.or_eq_true] at hb
      rcases hb with q | q | q | q | q
      · exact Or.inl (am_beq_t q)
      · exact Or.inr (Or.inl (am_beq_t q))
      · exact Or.inr (Or.inr (Or.inl (am_beq_t q)))
      · exact Or.inr (Or.inr (Or.inr (Or.inl (am_beq_t q))))
      · exact Or.inr (Or.inr (Or.inr (Or.inr (am_beq_t q))))
    have hi : am_isr t = true := by rcases ht with rfl | rfl | rfl | rfl | rfl <;> decide
    refine go_rep hG C hk (us := [(t, z)]) (vs := [(0, (am_len z.toNat : Int))]) (rest := st') rfl (fun H locs cells slots ls ad cA tys P => ?_) h2
    obtain ⟨q1, ⟨w1, w2, w3, w4, w5, w6, w7⟩, q3, q4, q5, q6, q7⟩ := P
    obtain ⟨a1, a2, a3⟩ := am_okc_lt hi (q6 _ List.mem_cons_self) h0
    obtain ⟨t0, ht0⟩ := w4 z.toNat a1 (by rw [a2]; omega)
    have hlr := am_len_r z.toNat (by omega)
    obtain ⟨x, hx, hxl⟩ := am_en_len (ka := ka) (vF := vF) (ad := ad) (cA := cA) (σ := σ) (i := z.toNat) (by rw [a2]; exact ht)
    refine ⟨fun v hv => ?_, fun K => ?_⟩
    · rw [List.mem_singleton] at hv; subst hv
      exact am_ok_0 ⟨by omega, by omega⟩
    · show W p l e R s m args below meth c H locs cells slots Q (F0 m pc ls (am_cv ka vF ad (t, z) :: st'.map (am_cv ka vF ad)))
      rw [am_cv_r hi h0 (by omega)]
      exact va_alen C.1 C.2.1 w3 w1 z.toNat t0 ((am_ws_at a1).trans (by rw [hx])) ht0 (by rw [hxl]; exact am_ofNat _) hd K
  | false =>
    rw [hb] at h1
    obtain ⟨hc, h2⟩ := am_bif_some h1
    refine go_rep hG C hk (us := [(t, z)]) (vs := [(0, (am_len z.toNat : Int))]) (rest := st') rfl (fun H locs cells slots ls ad cA tys P => ?_) h2
    obtain ⟨q1, q2, q3, q4, q5, q6, q7⟩ := P
    rw [Bool.or_eq_true] at hc
    rcases hc with ec | ec
    · obtain rfl := am_beq_t ec
      have hr := am_ok_21 (q6 _ List.mem_cons_self)
      obtain ⟨i, hi, rfl⟩ : ∃ i : Nat, i < 7 ∧ z = ((1000 + i : Nat) : Int) := ⟨z.toNat - 1000, by omega, by omega⟩
      rw [Int.toNat_natCast]
      obtain ⟨l1, l2⟩ := am_kl_r i hi
      refine ⟨fun v hv => ?_, fun K => ?_⟩
      · rw [List.mem_singleton] at hv; subst hv
        exact am_ok_0 ⟨by omega, by omega⟩
      · show W p l e R s m args below meth c H locs cells slots Q (F0 m pc ls (am_cv ka vF ad (21, ((1000 + i : Nat) : Int)) :: st'.map (am_cv ka vF ad)))
        rw [am_cv_k (Or.inr (Or.inl rfl)) (by omega), Int.toNat_natCast]
        exact va_tlen C.1 C.2.1 (C.2.2.2.2.2.1.1 i hi).2 q1 (am_ofNat _) hd K
    · obtain rfl := am_beq_t ec
      have hr := am_ok_23 (q6 _ List.mem_cons_self)
      obtain ⟨i, hi, rfl⟩ : ∃ i : Nat, i < 8 ∧ z = ((1100 + i : Nat) : Int) := ⟨z.toNat - 1100, by omega, by omega⟩
      rw [Int.toNat_natCast]
      obtain ⟨l0, l1⟩ := am_slen_ok i hi
      refine ⟨fun v hv => ?_, fun K => ?_⟩
      · rw [List.mem_singleton] at hv; subst hv
        exact am_ok_0 ⟨by omega, by omega⟩
      · show W p l e R s m args below meth c H locs cells slots Q (F0 m pc ls (am_cv ka vF ad (23, ((1100 + i : Nat) : Int)) :: st'.map (am_cv ka vF ad)))
        rw [am_cv_k (Or.inr (Or.inr rfl)) (by omega), Int.toNat_natCast]
        exact va_tlen C.1 C.2.1 (C.2.2.2.2.2.1.2.2.2.2.1.1 i hi).2.2.2 q1 (by rw [l0]; exact am_ofNat _) hd K
theorem am_cl_row {own j y kind : Nat} (hown : own < 18) (h : am_okc own j y kind = true) : ∃ f, f ∈ am_clk own ∧ f.1 = j ∧ f.2.1 = y ∧ f.2.2.1 = kind := by
  obtain ⟨a, ha, h⟩ := am_any_some h
  simp only [Bool.and_eq_true] at h
  exact ⟨a, ha, am_beq_t h.1.1, am_beq_t h.1.2, am_beq_t h.2⟩
theorem am_cl_word {own : Nat} (hown : own < 18) {f : Nat × Nat × Nat × Nat × Nat × Nat} (hf : f ∈ am_clk own) : ∀ q ∈ am_cws own f, q.2 ∈ am_wa := fun q hq => am_cll_ok own hown q (List.mem_flatMap.mpr ⟨f, hf, hq⟩)
theorem am_ini_word {own : Nat} (hown : own < 18) : Cond.initialized (am_cn own) ∈ am_wa := am_rows_in am_in_ am_in__g (am_ipos own, .initialized (am_cn own)) (List.mem_map.mpr ⟨own, List.mem_range.mpr hown, rfl⟩)
theorem go_math0 {p : Program} {l : Launch} {e : Env} {R : Room} {s : State} {m : MethodId} {args : Array Value} {below : List Frame} {meth : Method} {c : Code} {Q : State → Prop} {D : va_G} {B0 : Nat} {ka : Nat → Nat} {vF : Value} {md : Bool} {y n0 c0 s0 : Nat} {ad0 : Nat → Nat} {nf : Nat} {G : am_S → Prop} (hG : G = am_Go p l e R s m args below meth c Q D B0 ka vF md y n0 c0 s0 ad0 nf) (C : am_Cx p s m args c y B0 ka vF) {k : am_S → Option am_R} {r : am_R} (hk : ∀ S, k S = some r → G S) {pc nx : Nat} {L st : List am_V} {σ : am_M} {n : Nat} {d j : Nat} (hR : am_Rm R d c0 s0 n0 nf) (hd : decode (am_by y) pc = .ok (.invokestatic j, 3)) (hn : nx = pc + 3) (hw : am_okc (am_own y) j 0 7 = true) (h : (am_ii st fun a b st => bif Nat.ble (am_cat st) 8 then k (nx, L, (0, am_mn a b) :: st, σ, n) else none) = some r) : G (pc, L, st, σ, n) := by
  subst hn
  obtain ⟨a, b, st', est, h1⟩ := am_ii_some h
  obtain ⟨hc, h2⟩ := am_bif_some h1
  subst est
  have nn : n ≤ nf := by have := hk _ h2; rw [hG] at this; exact this.1
  obtain ⟨f, hf, f1, f2, f3⟩ := am_cl_row (am_y18 C.2.2.2.2.2.2.2) hw
  have hws := am_cl_word (am_y18 C.2.2.2.2.2.2.2) hf
  unfold am_cws at hws
  rw [f1, f2, f3] at hws
  have u1 := hws (f.2.2.2.1, Cond.methodLink (am_cn (am_own y)) j (am_mnm 0)) List.mem_cons_self
  have u2 := hws (f.2.2.2.2.1, Cond.static (am_mnm 0)) (List.mem_cons_of_mem _ List.mem_cons_self)
  have u3 := hws (f.2.2.2.2.2, am_mcd 0) (List.mem_cons_of_mem _ (List.mem_cons_of_mem _ List.mem_cons_self))
  refine go_rep hG C hk (us := [(0, b), (0, a)]) (vs := [(0, am_mn a b)]) (rest := st') rfl (fun H locs cells slots ls ad cA tys P => ?_) h2
  obtain ⟨q1, q2, q3, q4, q5, q6, g1, g2, g3, g4⟩ := P
  have hb := am_ok_i (q6 (0, b) (by simp))
  have ha := am_ok_i (q6 (0, a) (by simp))
  have hcat := am_cat_sum (ka := ka) (ad := ad) (am_hF C) st'
  have hc8 : am_cat st' ≤ 8 := Nat.le_of_ble_eq_true hc
  have hsz := am_sz_mono nn
  have hsz0 := am_sz_mono g1
  obtain ⟨r1, r2, r3, r4⟩ := hR
  refine ⟨fun v hv => ?_, fun K => ?_⟩
  · rw [List.mem_singleton] at hv; subst hv
    refine am_ok_0 ?_
    unfold am_mn
    split
    · exact hb
    · exact ha
  · refine va_mmin C.1 C.2.1 (by rw [C.2.2.1]; exact q3.1.symm) C.2.2.2.1 (C.2.2.2.2.1 _ u1) (C.2.2.2.2.1 _ u2) (C.2.2.2.2.1 _ (am_ini_word (own := 13) (by decide))) (C.2.2.2.2.1 _ u3) (by omega) (by show (List.map (fun v => v.category) (st'.map (am_cv ka vF ad))).sum + _ ≤ R.locals; rw [hcat]; omega) (by omega) (by omega) hd ?_
    rw [show (if Int32.ofInt b < Int32.ofInt a then Int32.ofInt b else Int32.ofInt a) = Int32.ofInt (am_mn a b) by unfold am_mn; simp only [am_i_lt hb ha]; split <;> rfl]
    exact K
theorem go_math1 {p : Program} {l : Launch} {e : Env} {R : Room} {s : State} {m : MethodId} {args : Array Value} {below : List Frame} {meth : Method} {c : Code} {Q : State → Prop} {D : va_G} {B0 : Nat} {ka : Nat → Nat} {vF : Value} {md : Bool} {y n0 c0 s0 : Nat} {ad0 : Nat → Nat} {nf : Nat} {G : am_S → Prop} (hG : G = am_Go p l e R s m args below meth c Q D B0 ka vF md y n0 c0 s0 ad0 nf) (C : am_Cx p s m args c y B0 ka vF) {k : am_S → Option am_R} {r : am_R} (hk : ∀ S, k S = some r → G S) {pc nx : Nat} {L st : List am_V} {σ : am_M} {n : Nat} {d j : Nat} (hR : am_Rm R d c0 s0 n0 nf) (hd : decode (am_by y) pc = .ok (.invokestatic j, 3)) (hn : nx = pc + 3) (hw : am_okc (am_own y) j 1 7 = true) (h : (am_ii st fun a b st => bif Nat.ble (am_cat st) 8 then k (nx, L, (0, am_mx a b) :: st, σ, n) else none) = some r) : G (pc, L, st, σ, n) := by
  subst hn
  obtain ⟨a, b, st', est, h1⟩ := am_ii_some h
  obtain ⟨hc, h2⟩ := am_bif_some h1
  subst est
  have nn : n ≤ nf := by have := hk _ h2; rw [hG] at this; exact this.1
  obtain ⟨f, hf, f1, f2, f3⟩ := am_cl_row (am_y18 C.2.2.2.2.2.2.2) hw
  have hws := am_cl_word (am_y18 C.2.2.2.2.2.2.2) hf
  unfold am_cws at hws
  rw [f1, f2, f3] at hws
  have u1 := hws (f.2.2.2.1, Cond.methodLink (am_cn (am_own y)) j (am_mnm 1)) List.mem_cons_self
  have u2 := hws (f.2.2.2.2.1, Cond.static (am_mnm 1)) (List.mem_cons_of_mem _ List.mem_cons_self)
  have u3 := hws (f.2.2.2.2.2, am_mcd 1) (List.mem_cons_of_mem _ (List.mem_cons_of_mem _ List.mem_cons_self))
  refine go_rep hG C hk (us := [(0, b), (0, a)]) (vs := [(0, am_mx a b)]) (rest := st') rfl (fun H locs cells slots ls ad cA tys P => ?_) h2
  obtain ⟨q1, q2, q3, q4, q5, q6, g1, g2, g3, g4⟩ := P
  have hb := am_ok_i (q6 (0, b) (by simp))
  have ha := am_ok_i (q6 (0, a) (by simp))
  have hcat := am_cat_sum (ka := ka) (ad := ad) (am_hF C) st'
  have hc8 : am_cat st' ≤ 8 := Nat.le_of_ble_eq_true hc
  have hsz := am_sz_mono nn
  have hsz0 := am_sz_mono g1
  obtain ⟨r1, r2, r3, r4⟩ := hR
  refine ⟨fun v hv => ?_, fun K => ?_⟩
  · rw [List.mem_singleton] at hv; subst hv
    refine am_ok_0 ?_
    unfold am_mx
    split
    · exact hb
    · exact ha
  · refine va_mmax C.1 C.2.1 (by rw [C.2.2.1]; exact q3.1.symm) C.2.2.2.1 (C.2.2.2.2.1 _ u1) (C.2.2.2.2.1 _ u2) (C.2.2.2.2.1 _ (am_ini_word (own := 13) (by decide))) (C.2.2.2.2.1 _ u3) (by omega) (by show (List.map (fun v => v.category) (st'.map (am_cv ka vF ad))).sum + _ ≤ R.locals; rw [hcat]; omega) (by omega) (by omega) hd ?_
    rw [show (if Int32.ofInt a < Int32.ofInt b then Int32.ofInt b else Int32.ofInt a) = Int32.ofInt (am_mx a b) by unfold am_mx; simp only [am_i_lt ha hb]; split <;> rfl]
    exact K
theorem go_math2 {p : Program} {l : Launch} {e : Env} {R : Room} {s : State} {m : MethodId} {args : Array Value} {below : List Frame} {meth : Method} {c : Code} {Q : State → Prop} {D : va_G} {B0 : Nat} {ka : Nat → Nat} {vF : Value} {md : Bool} {y n0 c0 s0 : Nat} {ad0 : Nat → Nat} {nf : Nat} {G : am_S → Prop} (hG : G = am_Go p l e R s m args below meth c Q D B0 ka vF md y n0 c0 s0 ad0 nf) (C : am_Cx p s m args c y B0 ka vF) {k : am_S → Option am_R} {r : am_R} (hk : ∀ S, k S = some r → G S) {pc nx : Nat} {L st : List am_V} {σ : am_M} {n : Nat} {d j : Nat} (hR : am_Rm R d c0 s0 n0 nf) (hd : decode (am_by y) pc = .ok (.invokestatic j, 3)) (hn : nx = pc + 3) (hw : am_okc (am_own y) j 2 7 = true) (h : (am_ll st fun a b st => bif Nat.ble (am_cat st) 8 then k (nx, L, (1, am_mn a b) :: st, σ, n) else none) = some r) : G (pc, L, st, σ, n) := by
  subst hn
  obtain ⟨a, b, st', est, h1⟩ := am_ll_some h
  obtain ⟨hc, h2⟩ := am_bif_some h1
  subst est
  have nn : n ≤ nf := by have := hk _ h2; rw [hG] at this; exact this.1
  obtain ⟨f, hf, f1, f2, f3⟩ := am_cl_row (am_y18 C.2.2.2.2.2.2.2) hw
  have hws := am_cl_word (am_y18 C.2.2.2.2.2.2.2) hf
  unfold am_cws at hws
  rw [f1, f2, f3] at hws
  have u1 := hws (f.2.2.2.1, Cond.methodLink (am_cn (am_own y)) j (am_mnm 2)) List.mem_cons_self
  have u2 := hws (f.2.2.2.2.1, Cond.static (am_mnm 2)) (List.mem_cons_of_mem _ List.mem_cons_self)
  have u3 := hws (f.2.2.2.2.2, am_mcd 2) (List.mem_cons_of_mem _ (List.mem_cons_of_mem _ List.mem_cons_self))
  refine go_rep hG C hk (us := [(1, b), (1, a)]) (vs := [(1, am_mn a b)]) (rest := st') rfl (fun H locs cells slots ls ad cA tys P => ?_) h2
  obtain ⟨q1, q2, q3, q4, q5, q6, g1, g2, g3, g4⟩ := P
  have hb := am_ok_l (q6 (1, b) (by simp))
  have ha := am_ok_l (q6 (1, a) (by simp))
  have hcat := am_cat_sum (ka := ka) (ad := ad) (am_hF C) st'
  have hc8 : am_cat st' ≤ 8 := Nat.le_of_ble_eq_true hc
  have hsz := am_sz_mono nn
  have hsz0 := am_sz_mono g1
  obtain ⟨r1, r2, r3, r4⟩ := hR
  refine ⟨fun v hv => ?_, fun K => ?_⟩
  · rw [List.mem_singleton] at hv; subst hv
    refine am_ok_1 ?_
    unfold am_mn
    split
    · exact hb
    · exact ha
  · refine va_mmin_long C.1 C.2.1 (by rw [C.2.2.1]; exact q3.1.symm) C.2.2.2.1 (C.2.2.2.2.1 _ u1) (C.2.2.2.2.1 _ u2) (C.2.2.2.2.1 _ (am_ini_word (own := 13) (by decide))) (C.2.2.2.2.1 _ u3) (by omega) (by show (List.map (fun v => v.category) (st'.map (am_cv ka vF ad))).sum + _ ≤ R.locals; rw [hcat]; omega) (by omega) (by omega) hd ?_
    rw [show (if Int64.ofInt b < Int64.ofInt a then Int64.ofInt b else Int64.ofInt a) = Int64.ofInt (am_mn a b) by unfold am_mn; simp only [am_l_lt hb ha]; split <;> rfl]
    exact K
theorem go_math3 {p : Program} {l : Launch} {e : Env} {R : Room} {s : State} {m : MethodId} {args : Array Value} {below : List Frame} {meth : Method} {c : Code} {Q : State → Prop} {D : va_G} {B0 : Nat} {ka : Nat → Nat} {vF : Value} {md : Bool} {y n0 c0 s0 : Nat} {ad0 : Nat → Nat} {nf : Nat} {G : am_S → Prop} (hG : G = am_Go p l e R s m args below meth c Q D B0 ka vF md y n0 c0 s0 ad0 nf) (C : am_Cx p s m args c y B0 ka vF) {k : am_S → Option am_R} {r : am_R} (hk : ∀ S, k S = some r → G S) {pc nx : Nat} {L st : List am_V} {σ : am_M} {n : Nat} {d j : Nat} (hR : am_Rm R d c0 s0 n0 nf) (hd : decode (am_by y) pc = .ok (.invokestatic j, 3)) (hn : nx = pc + 3) (hw : am_okc (am_own y) j 3 7 = true) (h : (am_ll st fun a b st => bif Nat.ble (am_cat st) 8 then k (nx, L, (1, am_mx a b) :: st, σ, n) else none) = some r) : G (pc, L, st, σ, n) := by
  subst hn
  obtain ⟨a, b, st', est, h1⟩ := am_ll_some h
  obtain ⟨hc, h2⟩ := am_bif_some h1
  subst est
  have nn : n ≤ nf := by have := hk _ h2; rw [hG] at this; exact this.1
  obtain ⟨f, hf, f1, f2, f3⟩ := am_cl_row (am_y18 C.2.2.2.2.2.2.2) hw
  have hws := am_cl_word (am_y18 C.2.2.2.2.2.2.2) hf
  unfold am_cws at hws
  rw [f1, f2, f3] at hws
  have u1 := hws (f.2.2.2.1, Cond.methodLink (am_cn (am_own y)) j (am_mnm 3)) List.mem_cons_self
  have u2 := hws (f.2.2.2.2.1, Cond.static (am_mnm 3)) (List.mem_cons_of_mem _ List.mem_cons_self)
  have u3 := hws (f.2.2.2.2.2, am_mcd 3) (List.mem_cons_of_mem _ (List.mem_cons_of_mem _ List.mem_cons_self))
  refine go_rep hG C hk (us := [(1, b), (1, a)]) (vs := [(1, am_mx a b)]) (rest := st') rfl (fun H locs cells slots ls ad cA tys P => ?_) h2
  obtain ⟨q1, q2, q3, q4, q5, q6, g1, g2, g3, g4⟩ := P
  have hb := am_ok_l (q6 (1, b) (by simp))
  have ha := am_ok_l (q6 (1, a) (by simp))
  have hcat := am_cat_sum (ka := ka) (ad := ad) (am_hF C) st'
  have hc8 : am_cat st' ≤ 8 := Nat.le_of_ble_eq_true hc
  have hsz := am_sz_mono nn
  have hsz0 := am_sz_mono g1
  obtain ⟨r1, r2, r3, r4⟩ := hR
  refine ⟨fun v hv => ?_, fun K => ?_⟩
  · rw [List.mem_singleton] at hv; subst hv
    refine am_ok_1 ?_
    unfold am_mx
    split
    · exact hb
    · exact ha
  · refine va_mmax_long C.1 C.2.1 (by rw [C.2.2.1]; exact q3.1.symm) C.2.2.2.1 (C.2.2.2.2.1 _ u1) (C.2.2.2.2.1 _ u2) (C.2.2.2.2.1 _ (am_ini_word (own := 13) (by decide))) (C.2.2.2.2.1 _ u3) (by omega) (by show (List.map (fun v => v.category) (st'.map (am_cv ka vF ad))).sum + _ ≤ R.locals; rw [hcat]; omega) (by omega) (by omega) hd ?_
    rw [show (if Int64.ofInt b < Int64.ofInt a then Int64.ofInt a else Int64.ofInt b) = Int64.ofInt (am_mx a b) by unfold am_mx; simp only [am_l_lt hb ha]; by_cases u : b < a <;> by_cases v : a < b <;> simp only [u, v, if_true, if_false] <;> first | rfl | (exfalso; omega) | (congr 1; omega)]
    exact K
