def am_ltv (x : Nat × Nat × Nat × Nat) : Int := bif Nat.beq x.2.2.1 1 then -(x.2.1 : Int) else (x.2.1 : Int)
theorem am_lit_eq (x : Nat × Nat × Nat × Nat) (k : Nat → Int → Option am_R) : am_lit x k = k x.1 (am_ltv x) := by
  unfold am_lit am_ltv
  cases Nat.beq x.2.2.1 1 <;> rfl
theorem am_klk_row {own j : Nat} {x : Nat × Nat × Nat × Nat} (h : (am_klk own).any (fun f => Nat.beq f.1 j && Nat.beq f.2.1 x.1 && Nat.beq f.2.2.1 x.2.1 && Nat.beq f.2.2.2.1 x.2.2.1) = true) : ∃ f, f ∈ am_klk own ∧ f.1 = j ∧ f.2.1 = x.1 ∧ f.2.2.1 = x.2.1 ∧ f.2.2.2.1 = x.2.2.1 := by
  obtain ⟨f, hf, h⟩ := am_any_some h
  simp only [Bool.and_eq_true] at h
  exact ⟨f, hf, am_beq_t h.1.1.1, am_beq_t h.1.1.2, am_beq_t h.1.2, am_beq_t h.2⟩
theorem am_kl_word {own j : Nat} {x : Nat × Nat × Nat × Nat} (hown : own < 18) (h : (am_klk own).any (fun f => Nat.beq f.1 j && Nat.beq f.2.1 x.1 && Nat.beq f.2.2.1 x.2.1 && Nat.beq f.2.2.2.1 x.2.2.1) = true) (h16 : Nat.beq x.1 16 = false) : am_kwd own j x.1 x.2.1 x.2.2.1 ∈ am_wa := by
  obtain ⟨f, hf, f1, f2, f3, f4⟩ := am_klk_row h
  refine am_kll_ok own hown (f.2.2.2.2, am_kwd own j x.1 x.2.1 x.2.2.1) (List.mem_map.mpr ⟨f, List.mem_filter.mpr ⟨hf, ?_⟩, ?_⟩)
  · rw [f2, h16]; rfl
  · rw [f1, f2, f3, f4]
theorem am_kwd_i (own j v neg : Nat) : am_kwd own j 0 v neg = .constant (am_cn own) j (Int32.ofInt (am_ltv (0, v, neg, 0))) := rfl
theorem am_kwd_l (own j v neg : Nat) : am_kwd own j 1 v neg = .constantLong (am_cn own) j (Int64.ofInt (am_ltv (1, v, neg, 0))) := rfl
theorem am_ltv_x (x : Nat × Nat × Nat × Nat) (t : Nat) : am_ltv (t, x.2.1, x.2.2.1, 0) = am_ltv x := rfl
theorem am_sref_ok : ∀ own, own < 18 → ∀ f ∈ am_klk own, Nat.beq f.2.1 16 = true → am_sref.any (fun e => Nat.beq e.1 own && Nat.beq e.2.1 f.1 && Nat.beq (2000 + e.2.2.2) f.2.2.1) = true := by decide +kernel
theorem am_ltv_r {x : Nat × Nat × Nat × Nat} {b : Nat} (h : x.2.1 < b) : -(b : Int) < am_ltv x ∧ am_ltv x < (b : Int) := by
  unfold am_ltv
  cases Nat.beq x.2.2.1 1
  · show -(b : Int) < (x.2.1 : Int) ∧ (x.2.1 : Int) < (b : Int)
    omega
  · show -(b : Int) < -(x.2.1 : Int) ∧ -(x.2.1 : Int) < (b : Int)
    omega
theorem am_ldcw {p : Program} {l : Launch} {e : Env} {R : Room} {s : State} {m : MethodId} {args : Array Value} {below : List Frame} {meth : Method} {c : Code} {H : Heap} {locs : List Loc} {cells slots : Nat} {Q : State → Prop} {cc : ByteArray} {pc : Nat} {ls : Array Slot} {rest : List Value} (hexec : p.tables.exec = Jvm.exec) (hb : c.code = cc) {own tx : String} {index q : Nat} (hown : s.vm.findClass own = some m.cls) (hZ : vk_R own index tx q s) (hdg : decode cc pc = .ok (.ldc_w index, 3))
    (k : W p l e R s m args below meth c H locs cells slots Q (F0 m (pc + 3) ls (.ref q :: rest))) : W p l e R s m args below meth c H locs cells slots Q (F0 m pc ls rest) := by
  intro T hT X
  obtain ⟨t, a1, b1⟩ := k T hT X
  refine ⟨t, ?_, b1⟩
  obtain ⟨k0, cf, i, a', hk, hcf, hcp, -, hr, hev'⟩ := Cond.stringRef_spec hown hZ.1
  cases hZ.2.symm.trans hev'
  obtain ⟨k', hk', he⟩ := X.warmed.alike.2.2 _ _ hk
  have hr' : k'.resolved[index]? = some (some (.string q)) := by
    rcases X.warmed.entry hk hk' index with h | ⟨h, -⟩
    · rw [h]; exact hr
    · rw [hr] at h; cases h
  have hdg' : decode c.code pc = .ok (.ldc_w index, 3) := by rw [hb]; exact hdg
  jvm_step X.here [hexec, hdg', ldc_w.wp_string (e := e) (s := T) (f := F0 m pc ls rest) X.here.top hk' (by rw [he]; exact hcf) hcp hr']
  exact a1
theorem go_ldc {p : Program} {l : Launch} {e : Env} {R : Room} {s : State} {m : MethodId} {args : Array Value} {below : List Frame} {meth : Method} {c : Code} {Q : State → Prop} {D : va_G} {B0 : Nat} {ka : Nat → Nat} {vF : Value} {md : Bool} {y n0 c0 s0 : Nat} {ad0 : Nat → Nat} {nf : Nat} {G : am_S → Prop} (hG : G = am_Go p l e R s m args below meth c Q D B0 ka vF md y n0 c0 s0 ad0 nf) (C : am_Cx p s m args c y B0 ka vF) {k : am_S → Option am_R} {r : am_R} (hk : ∀ S, k S = some r → G S) {pc nx : Nat} {L st : List am_V} {σ : am_M} {n : Nat} {j : Nat} {x : Nat × Nat × Nat × Nat} (hd : decode (am_by y) pc = .ok (.ldc j, 2)) (hn : nx = pc + 2) (hx : ((am_klk (am_own y)).any (fun f => Nat.beq f.1 j && Nat.beq f.2.1 x.1 && Nat.beq f.2.2.1 x.2.1 && Nat.beq f.2.2.2.1 x.2.2.1) && (bif Nat.beq x.1 16 then Nat.blt 1999 x.2.1 && Nat.blt x.2.1 2008 && Nat.beq x.2.2.1 0 else Nat.beq x.1 0 && Nat.blt x.2.1 2147483648)) = true) (h : (am_lit x fun t z => k (nx, L, (t, z) :: st, σ, n)) = some r) : G (pc, L, st, σ, n) := by
  subst hn
  rw [am_lit_eq] at h
  rw [Bool.and_eq_true] at hx
  obtain ⟨hx1, hx2⟩ := hx
  have hy := am_y18 C.2.2.2.2.2.2.2
  cases h16 : Nat.beq x.1 16 with
  | true =>
    rw [h16] at hx2
    have hx2 : (Nat.blt 1999 x.2.1 && Nat.blt x.2.1 2008 && Nat.beq x.2.2.1 0) = true := hx2
    simp only [Bool.and_eq_true] at hx2
    obtain ⟨⟨q1, q2⟩, q3⟩ := hx2
    have q1 := am_blt_lt q1
    have q2 := am_blt_lt q2
    have q3 := am_beq_t q3
    have e1 := am_beq_t h16
    obtain ⟨f, hf, f1, f2, f3, -⟩ := am_klk_row hx1
    obtain ⟨g, hg, hg2⟩ := am_any_some (am_sref_ok _ hy f hf (by rw [f2, h16]))
    simp only [Bool.and_eq_true] at hg2
    obtain ⟨⟨g1, g2⟩, g3⟩ := hg2
    have g1 := am_beq_t g1
    have g2 := am_beq_t g2
    have g3 := am_beq_t g3
    have hR := C.2.2.2.2.2.1.2.2.2.2.2.1 g hg
    have hz : am_ltv x = (x.2.1 : Int) := by unfold am_ltv; rw [q3]; rfl
    rw [e1, hz] at h
    refine go_rep hG C hk (us := []) (vs := [(16, (x.2.1 : Int))]) (rest := st) rfl (fun H locs cells slots ls ad cA tys P => ⟨fun v hv => ?_, fun K => ?_⟩) h
    · rw [List.mem_singleton] at hv; subst hv; exact Or.inr (Or.inr (Or.inl ⟨rfl, by show (2000 : Int) ≤ (x.2.1 : Int); omega, by show (x.2.1 : Int) < 2008; omega⟩))
    · rw [g1, g2, f1] at hR
      refine va_ldcS C.1 C.2.1 C.2.2.2.1 hR hd ?_
      have hcv := am_cv_k (ka := ka) (vF := vF) (ad := ad) (t := 16) (z := (x.2.1 : Int)) (Or.inl rfl) (by omega)
      have hn2 : (x.2.1 : Int).toNat = 2000 + g.2.2.2 := by omega
      rw [hn2] at hcv
      have K2 : W p l e R s m args below meth c H locs cells slots Q (F0 m (pc + 2) ls (am_cv ka vF ad (16, (x.2.1 : Int)) :: st.map (am_cv ka vF ad))) := K
      rw [hcv] at K2
      exact K2
  | false =>
    have hw := am_kl_word hy hx1 h16
    rw [h16] at hx2
    have hx2 : (Nat.beq x.1 0 && Nat.blt x.2.1 2147483648) = true := hx2
    rw [Bool.and_eq_true] at hx2
    have e1 := am_beq_t hx2.1
    have hr := am_ltv_r (am_blt_lt hx2.2)
    rw [e1] at h hw
    rw [am_kwd_i, am_ltv_x] at hw
    refine go_rep hG C hk (us := []) (vs := [(0, am_ltv x)]) (rest := st) rfl (fun H locs cells slots ls ad cA tys P => ⟨fun v hv => ?_, fun K => ?_⟩) h
    · rw [List.mem_singleton] at hv; subst hv; exact am_ok_0 ⟨by omega, by omega⟩
    · exact lv_ldc C.1 C.2.1 C.2.2.2.1 (C.2.2.2.2.1 _ hw) hd K
theorem go_ldc_w {p : Program} {l : Launch} {e : Env} {R : Room} {s : State} {m : MethodId} {args : Array Value} {below : List Frame} {meth : Method} {c : Code} {Q : State → Prop} {D : va_G} {B0 : Nat} {ka : Nat → Nat} {vF : Value} {md : Bool} {y n0 c0 s0 : Nat} {ad0 : Nat → Nat} {nf : Nat} {G : am_S → Prop} (hG : G = am_Go p l e R s m args below meth c Q D B0 ka vF md y n0 c0 s0 ad0 nf) (C : am_Cx p s m args c y B0 ka vF) {k : am_S → Option am_R} {r : am_R} (hk : ∀ S, k S = some r → G S) {pc nx : Nat} {L st : List am_V} {σ : am_M} {n : Nat} {j : Nat} {x : Nat × Nat × Nat × Nat} (hd : decode (am_by y) pc = .ok (.ldc_w j, 3)) (hn : nx = pc + 3) (hx : ((am_klk (am_own y)).any (fun f => Nat.beq f.1 j && Nat.beq f.2.1 x.1 && Nat.beq f.2.2.1 x.2.1 && Nat.beq f.2.2.2.1 x.2.2.1) && (bif Nat.beq x.1 16 then Nat.blt 1999 x.2.1 && Nat.blt x.2.1 2008 && Nat.beq x.2.2.1 0 else Nat.beq x.1 0 && Nat.blt x.2.1 2147483648)) = true) (h : (am_lit x fun t z => k (nx, L, (t, z) :: st, σ, n)) = some r) : G (pc, L, st, σ, n) := by
  subst hn
  rw [am_lit_eq] at h
  rw [Bool.and_eq_true] at hx
  obtain ⟨hx1, hx2⟩ := hx
  have hy := am_y18 C.2.2.2.2.2.2.2
  cases h16 : Nat.beq x.1 16 with
  | true =>
    rw [h16] at hx2
    have hx2 : (Nat.blt 1999 x.2.1 && Nat.blt x.2.1 2008 && Nat.beq x.2.2.1 0) = true := hx2
    simp only [Bool.and_eq_true] at hx2
    obtain ⟨⟨q1, q2⟩, q3⟩ := hx2
    have q1 := am_blt_lt q1
    have q2 := am_blt_lt q2
    have q3 := am_beq_t q3
    have e1 := am_beq_t h16
    obtain ⟨f, hf, f1, f2, f3, -⟩ := am_klk_row hx1
    obtain ⟨g, hg, hg2⟩ := am_any_some (am_sref_ok _ hy f hf (by rw [f2, h16]))
    simp only [Bool.and_eq_true] at hg2
    obtain ⟨⟨g1, g2⟩, g3⟩ := hg2
    have g1 := am_beq_t g1
    have g2 := am_beq_t g2
    have g3 := am_beq_t g3
    have hR := C.2.2.2.2.2.1.2.2.2.2.2.1 g hg
    have hz : am_ltv x = (x.2.1 : Int) := by unfold am_ltv; rw [q3]; rfl
    rw [e1, hz] at h
    refine go_rep hG C hk (us := []) (vs := [(16, (x.2.1 : Int))]) (rest := st) rfl (fun H locs cells slots ls ad cA tys P => ⟨fun v hv => ?_, fun K => ?_⟩) h
    · rw [List.mem_singleton] at hv; subst hv; exact Or.inr (Or.inr (Or.inl ⟨rfl, by show (2000 : Int) ≤ (x.2.1 : Int); omega, by show (x.2.1 : Int) < 2008; omega⟩))
    · rw [g1, g2, f1] at hR
      refine am_ldcw C.1 C.2.1 C.2.2.2.1 hR hd ?_
      have hcv := am_cv_k (ka := ka) (vF := vF) (ad := ad) (t := 16) (z := (x.2.1 : Int)) (Or.inl rfl) (by omega)
      have hn2 : (x.2.1 : Int).toNat = 2000 + g.2.2.2 := by omega
      rw [hn2] at hcv
      have K2 : W p l e R s m args below meth c H locs cells slots Q (F0 m (pc + 3) ls (am_cv ka vF ad (16, (x.2.1 : Int)) :: st.map (am_cv ka vF ad))) := K
      rw [hcv] at K2
      exact K2
  | false =>
    have hw := am_kl_word hy hx1 h16
    rw [h16] at hx2
    have hx2 : (Nat.beq x.1 0 && Nat.blt x.2.1 2147483648) = true := hx2
    rw [Bool.and_eq_true] at hx2
    have e1 := am_beq_t hx2.1
    have hr := am_ltv_r (am_blt_lt hx2.2)
    rw [e1] at h hw
    rw [am_kwd_i, am_ltv_x] at hw
    refine go_rep hG C hk (us := []) (vs := [(0, am_ltv x)]) (rest := st) rfl (fun H locs cells slots ls ad cA tys P => ⟨fun v hv => ?_, fun K => ?_⟩) h
    · rw [List.mem_singleton] at hv; subst hv; exact am_ok_0 ⟨by omega, by omega⟩
    · exact lv_ldcw C.1 C.2.1 C.2.2.2.1 (C.2.2.2.2.1 _ hw) hd K
theorem go_ldc2 {p : Program} {l : Launch} {e : Env} {R : Room} {s : State} {m : MethodId} {args : Array Value} {below : List Frame} {meth : Method} {c : Code} {Q : State → Prop} {D : va_G} {B0 : Nat} {ka : Nat → Nat} {vF : Value} {md : Bool} {y n0 c0 s0 : Nat} {ad0 : Nat → Nat} {nf : Nat} {G : am_S → Prop} (hG : G = am_Go p l e R s m args below meth c Q D B0 ka vF md y n0 c0 s0 ad0 nf) (C : am_Cx p s m args c y B0 ka vF) {k : am_S → Option am_R} {r : am_R} (hk : ∀ S, k S = some r → G S) {pc nx : Nat} {L st : List am_V} {σ : am_M} {n : Nat} {j : Nat} {x : Nat × Nat × Nat × Nat} (hd : decode (am_by y) pc = .ok (.ldc2_w j, 3)) (hn : nx = pc + 3) (hx : ((am_klk (am_own y)).any (fun f => Nat.beq f.1 j && Nat.beq f.2.1 x.1 && Nat.beq f.2.2.1 x.2.1 && Nat.beq f.2.2.2.1 x.2.2.1) && Nat.beq x.1 1 && Nat.blt x.2.1 9223372036854775808) = true) (h : (am_lit x fun t z => k (nx, L, (t, z) :: st, σ, n)) = some r) : G (pc, L, st, σ, n) := by
  subst hn
  rw [am_lit_eq] at h
  simp only [Bool.and_eq_true] at hx
  obtain ⟨⟨hx1, hx2⟩, hx3⟩ := hx
  have hy := am_y18 C.2.2.2.2.2.2.2
  have e1 := am_beq_t hx2
  have hw := am_kl_word hy hx1 (by rw [e1]; rfl)
  have hr := am_ltv_r (am_blt_lt hx3)
  rw [e1] at h hw
  rw [am_kwd_l, am_ltv_x] at hw
  refine go_rep hG C hk (us := []) (vs := [(1, am_ltv x)]) (rest := st) rfl (fun H locs cells slots ls ad cA tys P => ⟨fun v hv => ?_, fun K => ?_⟩) h
  · rw [List.mem_singleton] at hv; subst hv; exact am_ok_1 ⟨by omega, by omega⟩
  · exact lv_ldc2 C.1 C.2.1 C.2.2.2.1 (C.2.2.2.2.1 _ hw) hd K
theorem am_gkind : ∀ own, own < 18 → ∀ f ∈ am_glk own, f.2.1 < 9 ∧ (f.2.2.1 = 0 ∨ f.2.2.1 = 1) := by decide +kernel
theorem go_stat {p : Program} {l : Launch} {e : Env} {R : Room} {s : State} {m : MethodId} {args : Array Value} {below : List Frame} {meth : Method} {c : Code} {Q : State → Prop} {D : va_G} {B0 : Nat} {ka : Nat → Nat} {vF : Value} {md : Bool} {y n0 c0 s0 : Nat} {ad0 : Nat → Nat} {nf : Nat} {G : am_S → Prop} (hG : G = am_Go p l e R s m args below meth c Q D B0 ka vF md y n0 c0 s0 ad0 nf) (C : am_Cx p s m args c y B0 ka vF) {k : am_S → Option am_R} {r : am_R} (hk : ∀ S, k S = some r → G S) {pc : Nat} {L st : List am_V} {σ : am_M} {n : Nat} {j : Nat} {v : am_V} {f : Nat × Nat × Nat × Nat} (hf : f ∈ am_glk (am_own y)) (hfj : f.1 = j) (hd : decode (am_by y) pc = .ok (.getstatic j, 3)) (hv : am_ok n v) (hZ : ∀ ad : Nat → Nat, va_Z (am_sfn f.2.1).1 (am_sfn f.2.1).2.1 (am_sfn f.2.1).2.2 (am_cv ka vF ad v) (fun q => B0 ≤ q) s s.heap) (h : k (pc + 3, L, v :: st, σ, n) = some r) : G (pc, L, st, σ, n) := by
  have hy := am_y18 C.2.2.2.2.2.2.2
  refine go_rep hG C hk (us := []) (vs := [v]) (rest := st) rfl (fun H locs cells slots ls ad cA tys P => ⟨fun w hw => ?_, fun K => ?_⟩) h
  · rw [List.mem_singleton] at hw; subst hw; exact hv
  · rcases (am_gkind _ hy f hf).2 with e | e
    · have hw := am_gll_ok _ hy (f.2.2.2, .fieldLink (am_cn (am_own y)) f.1 (am_sfn f.2.1).1 (am_sfn f.2.1).2.1 (am_sfn f.2.1).2.2) (List.mem_map.mpr ⟨f, List.mem_filter.mpr ⟨hf, by rw [e]; rfl⟩, rfl⟩)
      rw [hfj] at hw
      exact va_gets C.1 C.2.1 (hZ ad) P.1 C.2.2.2.1 (C.2.2.2.2.1 _ hw) (fun _ h => h) hd K
    · have hw := am_gnl_ok _ hy (f.2.2.2, .fieldLinkNest (am_cn (am_own y)) f.1 (am_sfn f.2.1).1 (am_sfn f.2.1).2.1 (am_sfn f.2.1).2.2 "PlanMemo") (List.mem_map.mpr ⟨f, List.mem_filter.mpr ⟨hf, by rw [e]; rfl⟩, rfl⟩)
      rw [hfj] at hw
      exact va_getsN C.1 C.2.1 (hZ ad) P.1 C.2.2.2.1 (va_Nw.use rfl (C.2.2.2.2.2.1.2.2.2.2.2.2.1 _ hw)) (fun _ h => h) hd K
theorem go_getstatic {p : Program} {l : Launch} {e : Env} {R : Room} {s : State} {m : MethodId} {args : Array Value} {below : List Frame} {meth : Method} {c : Code} {Q : State → Prop} {D : va_G} {B0 : Nat} {ka : Nat → Nat} {vF : Value} {md : Bool} {y n0 c0 s0 : Nat} {ad0 : Nat → Nat} {nf : Nat} {G : am_S → Prop} (hG : G = am_Go p l e R s m args below meth c Q D B0 ka vF md y n0 c0 s0 ad0 nf) (C : am_Cx p s m args c y B0 ka vF) {k : am_S → Option am_R} {r : am_R} (hk : ∀ S, k S = some r → G S) {pc nx : Nat} {L st : List am_V} {σ : am_M} {n : Nat} {j : Nat} {x : Nat × Nat × Nat × Nat} (hd : decode (am_by y) pc = .ok (.getstatic j, 3)) (hn : nx = pc + 3) (hx : ((am_glk (am_own y)).any (fun f => Nat.beq f.1 j && (bif Nat.blt f.2.1 7 then Nat.beq x.1 21 && Nat.beq x.2.1 (1000 + f.2.1) else bif Nat.beq f.2.1 7 then Nat.beq x.1 0 && Nat.beq x.2.1 1 else Nat.beq f.2.1 8 && Nat.beq x.1 17 && Nat.beq x.2.1 0)) && Nat.beq x.2.2.1 0) = true) (h : (am_lit x fun t z => k (nx, L, (t, z) :: st, σ, n)) = some r) : G (pc, L, st, σ, n) := by
  subst hn
  rw [am_lit_eq] at h
  rw [Bool.and_eq_true] at hx
  obtain ⟨hx1, hx2⟩ := hx
  obtain ⟨f, hf, hx1⟩ := am_any_some hx1
  rw [Bool.and_eq_true] at hx1
  obtain ⟨hj, hx3⟩ := hx1
  have hj := am_beq_t hj
  have hz : am_ltv x = (x.2.1 : Int) := by unfold am_ltv; rw [am_beq_t hx2]; rfl
  rw [hz] at h
  have hSt := C.2.2.2.2.2.1
  cases h7 : Nat.blt f.2.1 7 with
  | true =>
    rw [h7] at hx3
    have hx3 : (Nat.beq x.1 21 && Nat.beq x.2.1 (1000 + f.2.1)) = true := hx3
    rw [Bool.and_eq_true] at hx3
    have e1 := am_beq_t hx3.1
    have e2 := am_beq_t hx3.2
    have hl := am_blt_lt h7
    rw [e1, e2] at h
    refine go_stat hG C hk hf hj hd (v := (21, ((1000 + f.2.1 : Nat) : Int))) (Or.inr (Or.inr (Or.inr (Or.inr (Or.inl ⟨rfl, by dsimp only; omega, by dsimp only; omega⟩))))) (fun ad => ?_) h
    have hcv := am_cv_k (ka := ka) (vF := vF) (ad := ad) (t := 21) (z := ((1000 + f.2.1 : Nat) : Int)) (Or.inr (Or.inl rfl)) (by omega)
    rw [hcv, Int.toNat_natCast]
    exact (hSt.1 f.2.1 hl).1
  | false =>
    rw [h7] at hx3
    have hx3 : (bif Nat.beq f.2.1 7 then Nat.beq x.1 0 && Nat.beq x.2.1 1 else Nat.beq f.2.1 8 && Nat.beq x.1 17 && Nat.beq x.2.1 0) = true := hx3
    cases h8 : Nat.beq f.2.1 7 with
    | true =>
      rw [h8] at hx3
      have hx3 : (Nat.beq x.1 0 && Nat.beq x.2.1 1) = true := hx3
      rw [Bool.and_eq_true] at hx3
      rw [am_beq_t hx3.1, am_beq_t hx3.2] at h
      refine go_stat hG C hk hf hj hd (v := (0, 1)) (am_ok_0 ⟨by decide, by decide⟩) (fun ad => ?_) h
      rw [am_beq_t h8]
      exact hSt.2.1
    | false =>
      rw [h8] at hx3
      have hx3 : (Nat.beq f.2.1 8 && Nat.beq x.1 17 && Nat.beq x.2.1 0) = true := hx3
      simp only [Bool.and_eq_true] at hx3
      rw [am_beq_t hx3.1.2, am_beq_t hx3.2] at h
      refine go_stat hG C hk hf hj hd (v := (17, 0)) (Or.inr (Or.inr (Or.inr (Or.inl rfl)))) (fun ad => ?_) h
      rw [am_beq_t hx3.1.1]
      exact hSt.2.2.1
theorem am_isr_o2 {t : Nat} (h1 : 100 ≤ t) (h2 : t < 111) : am_isr t = true := by
  have := am_isr_o (c := t - 100) (by omega)
  rwa [show 100 + (t - 100) = t by omega] at this
theorem go_null {p : Program} {l : Launch} {e : Env} {R : Room} {s : State} {m : MethodId} {args : Array Value} {below : List Frame} {meth : Method} {c : Code} {Q : State → Prop} {D : va_G} {B0 : Nat} {ka : Nat → Nat} {vF : Value} {md : Bool} {y n0 c0 s0 : Nat} {ad0 : Nat → Nat} {nf : Nat} {G : am_S → Prop} (hG : G = am_Go p l e R s m args below meth c Q D B0 ka vF md y n0 c0 s0 ad0 nf) (C : am_Cx p s m args c y B0 ka vF) {k : am_S → Option am_R} {r : am_R} (hk : ∀ S, k S = some r → G S) {pc nx : Nat} {L st : List am_V} {σ : am_M} {n : Nat} {t : Nat} (hd : decode (am_by y) pc = .ok (.aconst_null, 1)) (hn : nx = pc + 1) (ht : Nat.blt t 111 = true) (h : (bif Nat.ble 100 t then k (nx, L, (t, -1) :: st, σ, n) else none) = some r) : G (pc, L, st, σ, n) := by
  subst hn
  obtain ⟨hb, h⟩ := am_bif_some h
  have hi := am_isr_o2 (Nat.le_of_ble_eq_true hb) (am_blt_lt ht)
  refine go_rep hG C hk (us := []) (vs := [(t, -1)]) (rest := st) rfl (fun H locs cells slots ls ad cA tys P => ⟨fun v hv => ?_, fun K => ?_⟩) h
  · rw [List.mem_singleton] at hv; subst hv; exact am_ok_ref hi (Or.inl rfl)
  · have K2 : W p l e R s m args below meth c H locs cells slots Q (F0 m (pc + 1) ls (am_cv ka vF ad (t, -1) :: st.map (am_cv ka vF ad))) := K
    rw [am_cv_null hi] at K2
    exact lv_null C.1 C.2.1 hd K2
