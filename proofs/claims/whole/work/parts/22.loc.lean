theorem am_hF {p : Program} {s : State} {m : MethodId} {args : Array Value} {c : Code} {y B0 : Nat} {ka : Nat → Nat} {vF : Value} (C : am_Cx p s m args c y B0 ka vF) : vF.category = 1 := by
  rcases C.2.2.2.2.2.1.2.2.2.1 with h | ⟨a, h⟩ <;> rw [h] <;> rfl
theorem am_st1_mem {ka : Nat → Nat} {vF : Value} {ad : Nat → Nat} (hF : vF.category = 1) {L L' : List am_V} {j : Nat} {v : am_V} (h4 : L'[j]? = some v) (h5 : ∀ (i : Nat) (w : am_V), i ≠ j → L'[i]? = some w → w.1 ≠ 9 → L[i]? = some w ∧ ¬ (i + 1 = j ∧ w.1 = 1)) :
    ∀ q ∈ am_lv ka vF ad 0 L', q ∈ (j, am_cv ka vF ad v) :: (am_lv ka vF ad 0 L).filter (fun q => !(q.1 == j) && !(q.1 + 1 == j && q.2.category == 2)) := by
  intro q hq
  obtain ⟨i, w, hw, h9, rfl⟩ := (am_lv_mem L' 0 q).mp hq
  rw [Nat.zero_add]
  by_cases hi : i = j
  · subst hi
    rw [h4] at hw
    cases hw
    exact List.mem_cons_self
  · obtain ⟨a, b⟩ := h5 i w hi hw h9
    refine List.mem_cons_of_mem _ (List.mem_filter.mpr ⟨(am_lv_mem L 0 _).mpr ⟨i, w, a, h9, by rw [Nat.zero_add]⟩, ?_⟩)
    dsimp only
    rw [am_cv_cat hF]
    have e1 : (i == j) = false := by rw [beq_eq_false_iff_ne]; exact hi
    rw [e1]
    cases e2 : (i + 1 == j) with
    | false => rfl
    | true =>
      cases e3 : Nat.beq w.1 1 with
      | false => rfl
      | true => exact absurd ⟨eq_of_beq e2, Nat.eq_of_beq_eq_true e3⟩ b
theorem am_st2_mem {ka : Nat → Nat} {vF : Value} {ad : Nat → Nat} (hF : vF.category = 1) {L L' : List am_V} {j : Nat} {v : am_V} (h4 : L'[j]? = some v) (h5 : ∀ (i : Nat) (w : am_V), i ≠ j → L'[i]? = some w → w.1 ≠ 9 → L[i]? = some w ∧ i ≠ j + 1 ∧ ¬ (i + 1 = j ∧ w.1 = 1)) :
    ∀ q ∈ am_lv ka vF ad 0 L', q ∈ (j, am_cv ka vF ad v) :: (am_lv ka vF ad 0 L).filter (fun q => !(q.1 == j) && (!(q.1 == j + 1) && !(q.1 + 1 == j && q.2.category == 2))) := by
  intro q hq
  obtain ⟨i, w, hw, h9, rfl⟩ := (am_lv_mem L' 0 q).mp hq
  rw [Nat.zero_add]
  by_cases hi : i = j
  · subst hi
    rw [h4] at hw
    cases hw
    exact List.mem_cons_self
  · obtain ⟨a, a2, b⟩ := h5 i w hi hw h9
    refine List.mem_cons_of_mem _ (List.mem_filter.mpr ⟨(am_lv_mem L 0 _).mpr ⟨i, w, a, h9, by rw [Nat.zero_add]⟩, ?_⟩)
    dsimp only
    rw [am_cv_cat hF]
    have e1 : (i == j) = false := by rw [beq_eq_false_iff_ne]; exact hi
    have e0 : (i == j + 1) = false := by rw [beq_eq_false_iff_ne]; exact a2
    rw [e1, e0]
    cases e2 : (i + 1 == j) with
    | false => rfl
    | true =>
      cases e3 : Nat.beq w.1 1 with
      | false => rfl
      | true => exact absurd ⟨eq_of_beq e2, Nat.eq_of_beq_eq_true e3⟩ b
theorem go_istore {p : Program} {l : Launch} {e : Env} {R : Room} {s : State} {m : MethodId} {args : Array Value} {below : List Frame} {meth : Method} {c : Code} {Q : State → Prop} {D : va_G} {B0 : Nat} {ka : Nat → Nat} {vF : Value} {md : Bool} {y n0 c0 s0 : Nat} {ad0 : Nat → Nat} {nf : Nat} {G : am_S → Prop} (hG : G = am_Go p l e R s m args below meth c Q D B0 ka vF md y n0 c0 s0 ad0 nf) (C : am_Cx p s m args c y B0 ka vF) {k : am_S → Option am_R} {r : am_R} (hk : ∀ S, k S = some r → G S) {pc nx : Nat} {L st : List am_V} {σ : am_M} {n : Nat} {j : Nat} (hd : decode (am_by y) pc = .ok (.istore j, 2)) (hn : nx = pc + 2) (h : (am_i1 st fun z st => am_s1 L j (0, z) fun L => k (nx, L, st, σ, n)) = some r) : G (pc, L, st, σ, n) := by
  subst hn
  obtain ⟨z, st', rfl, h⟩ := am_i1_some h
  obtain ⟨L', k1, h2, h3, h4, h5⟩ := am_s1_some h
  have g := hk _ k1
  subst hG
  refine ⟨g.1, fun H locs cells slots ls ad cA tys P => ?_⟩
  obtain ⟨q1, q2, q3, q4, q5, q6, q7⟩ := P
  refine lv_istore C.1 C.2.1 hd q3 (by rw [← q4]; exact h3) rfl (fun ls' h' => ?_)
  refine g.2 H locs cells slots ls' ad cA tys ⟨q1, q2, am_has_sub h' (am_st1_mem (am_hF C) h4 h5), h2.trans q4, fun i w hw h9 => ?_, fun v hv => q6 v (List.mem_cons_of_mem _ hv), q7⟩
  by_cases hi : i = j
  · subst hi
    rw [h4] at hw
    cases hw
    exact q6 _ List.mem_cons_self
  · exact q5 i w (h5 i w hi hw h9).1 h9
theorem go_lstore {p : Program} {l : Launch} {e : Env} {R : Room} {s : State} {m : MethodId} {args : Array Value} {below : List Frame} {meth : Method} {c : Code} {Q : State → Prop} {D : va_G} {B0 : Nat} {ka : Nat → Nat} {vF : Value} {md : Bool} {y n0 c0 s0 : Nat} {ad0 : Nat → Nat} {nf : Nat} {G : am_S → Prop} (hG : G = am_Go p l e R s m args below meth c Q D B0 ka vF md y n0 c0 s0 ad0 nf) (C : am_Cx p s m args c y B0 ka vF) {k : am_S → Option am_R} {r : am_R} (hk : ∀ S, k S = some r → G S) {pc nx : Nat} {L st : List am_V} {σ : am_M} {n : Nat} {j : Nat} (hd : decode (am_by y) pc = .ok (.lstore j, 2)) (hn : nx = pc + 2) (h : (am_l1 st fun z st => am_s2 L j (1, z) fun L => k (nx, L, st, σ, n)) = some r) : G (pc, L, st, σ, n) := by
  subst hn
  obtain ⟨z, st', rfl, h⟩ := am_l1_some h
  obtain ⟨L', k1, h2, h3, h4, h5⟩ := am_s2_some h
  have g := hk _ k1
  subst hG
  refine ⟨g.1, fun H locs cells slots ls ad cA tys P => ?_⟩
  obtain ⟨q1, q2, q3, q4, q5, q6, q7⟩ := P
  refine lv_lstore C.1 C.2.1 hd q3 (by rw [← q4]; exact h3) rfl (fun ls' h' => ?_)
  refine g.2 H locs cells slots ls' ad cA tys ⟨q1, q2, am_has_sub h' (am_st2_mem (am_hF C) h4 h5), h2.trans q4, fun i w hw h9 => ?_, fun v hv => q6 v (List.mem_cons_of_mem _ hv), q7⟩
  by_cases hi : i = j
  · subst hi
    rw [h4] at hw
    cases hw
    exact q6 _ List.mem_cons_self
  · exact q5 i w (h5 i w hi hw h9).1 h9
theorem go_astore {p : Program} {l : Launch} {e : Env} {R : Room} {s : State} {m : MethodId} {args : Array Value} {below : List Frame} {meth : Method} {c : Code} {Q : State → Prop} {D : va_G} {B0 : Nat} {ka : Nat → Nat} {vF : Value} {md : Bool} {y n0 c0 s0 : Nat} {ad0 : Nat → Nat} {nf : Nat} {G : am_S → Prop} (hG : G = am_Go p l e R s m args below meth c Q D B0 ka vF md y n0 c0 s0 ad0 nf) (C : am_Cx p s m args c y B0 ka vF) {k : am_S → Option am_R} {r : am_R} (hk : ∀ S, k S = some r → G S) {pc nx : Nat} {L st : List am_V} {σ : am_M} {n : Nat} {j : Nat} (hd : decode (am_by y) pc = .ok (.astore j, 2)) (hn : nx = pc + 2) (h : (am_v1 st fun t z st => bif Nat.ble 10 t then am_s1 L j (t, z) fun L => k (nx, L, st, σ, n) else none) = some r) : G (pc, L, st, σ, n) := by
  subst hn
  obtain ⟨t, z, st', rfl, h⟩ := am_v1_some h
  obtain ⟨hb, h⟩ := am_bif_some h
  have ht : 10 ≤ t := Nat.le_of_ble_eq_true hb
  obtain ⟨L', k1, h2, h3, h4, h5⟩ := am_s1_some h
  have g := hk _ k1
  subst hG
  refine ⟨g.1, fun H locs cells slots ls ad cA tys P => ?_⟩
  obtain ⟨q1, q2, q3, q4, q5, q6, q7⟩ := P
  have K : ∀ ls' : Array Slot, lv_has ls' (am_ml y) ((j, am_cv ka vF ad (t, z)) :: (am_lv ka vF ad 0 L).filter (fun q => !(q.1 == j) && !(q.1 + 1 == j && q.2.category == 2))) → W p l e R s m args below meth c H locs cells slots Q (F0 m (pc + 2) ls' (st'.map (am_cv ka vF ad))) := by
    intro ls' h'
    refine g.2 H locs cells slots ls' ad cA tys ⟨q1, q2, am_has_sub h' (am_st1_mem (am_hF C) h4 h5), h2.trans q4, fun i w hw h9 => ?_, fun v hv => q6 v (List.mem_cons_of_mem _ hv), q7⟩
    by_cases hi : i = j
    · subst hi
      rw [h4] at hw
      cases hw
      exact q6 _ List.mem_cons_self
    · exact q5 i w (h5 i w hi hw h9).1 h9
  show W p l e R s m args below meth c H locs cells slots Q (F0 m pc ls (am_cv ka vF ad (t, z) :: st'.map (am_cv ka vF ad)))
  rcases am_cv_ref C.2.2.2.2.2.1.2.2.2.1 ht (q6 _ List.mem_cons_self) with q | ⟨a, q⟩
  · rw [q] at K ⊢
    exact lv_astoreN C.1 C.2.1 hd q3 (by rw [← q4]; exact h3) rfl K
  · rw [q] at K ⊢
    exact lv_astore C.1 C.2.1 hd q3 (by rw [← q4]; exact h3) rfl K
theorem go_istore_n {p : Program} {l : Launch} {e : Env} {R : Room} {s : State} {m : MethodId} {args : Array Value} {below : List Frame} {meth : Method} {c : Code} {Q : State → Prop} {D : va_G} {B0 : Nat} {ka : Nat → Nat} {vF : Value} {md : Bool} {y n0 c0 s0 : Nat} {ad0 : Nat → Nat} {nf : Nat} {G : am_S → Prop} (hG : G = am_Go p l e R s m args below meth c Q D B0 ka vF md y n0 c0 s0 ad0 nf) (C : am_Cx p s m args c y B0 ka vF) {k : am_S → Option am_R} {r : am_R} (hk : ∀ S, k S = some r → G S) {pc nx : Nat} {L st : List am_V} {σ : am_M} {n : Nat} {j : Fin 4} (hd : decode (am_by y) pc = .ok (.istore_n j, 1)) (hn : nx = pc + 1) (h : (am_i1 st fun z st => am_s1 L j.val (0, z) fun L => k (nx, L, st, σ, n)) = some r) : G (pc, L, st, σ, n) := by
  subst hn
  obtain ⟨z, st', rfl, h⟩ := am_i1_some h
  obtain ⟨L', k1, h2, h3, h4, h5⟩ := am_s1_some h
  have g := hk _ k1
  subst hG
  refine ⟨g.1, fun H locs cells slots ls ad cA tys P => ?_⟩
  obtain ⟨q1, q2, q3, q4, q5, q6, q7⟩ := P
  refine lv_istore_n C.1 C.2.1 hd rfl q3 (by rw [← q4]; exact h3) rfl (fun ls' h' => ?_)
  refine g.2 H locs cells slots ls' ad cA tys ⟨q1, q2, am_has_sub h' (am_st1_mem (am_hF C) h4 h5), h2.trans q4, fun i w hw h9 => ?_, fun v hv => q6 v (List.mem_cons_of_mem _ hv), q7⟩
  by_cases hi : i = j.val
  · subst hi
    rw [h4] at hw
    cases hw
    exact q6 _ List.mem_cons_self
  · exact q5 i w (h5 i w hi hw h9).1 h9
theorem go_lstore_n {p : Program} {l : Launch} {e : Env} {R : Room} {s : State} {m : MethodId} {args : Array Value} {below : List Frame} {meth : Method} {c : Code} {Q : State → Prop} {D : va_G} {B0 : Nat} {ka : Nat → Nat} {vF : Value} {md : Bool} {y n0 c0 s0 : Nat} {ad0 : Nat → Nat} {nf : Nat} {G : am_S → Prop} (hG : G = am_Go p l e R s m args below meth c Q D B0 ka vF md y n0 c0 s0 ad0 nf) (C : am_Cx p s m args c y B0 ka vF) {k : am_S → Option am_R} {r : am_R} (hk : ∀ S, k S = some r → G S) {pc nx : Nat} {L st : List am_V} {σ : am_M} {n : Nat} {j : Fin 4} (hd : decode (am_by y) pc = .ok (.lstore_n j, 1)) (hn : nx = pc + 1) (h : (am_l1 st fun z st => am_s2 L j.val (1, z) fun L => k (nx, L, st, σ, n)) = some r) : G (pc, L, st, σ, n) := by
  subst hn
  obtain ⟨z, st', rfl, h⟩ := am_l1_some h
  obtain ⟨L', k1, h2, h3, h4, h5⟩ := am_s2_some h
  have g := hk _ k1
  subst hG
  refine ⟨g.1, fun H locs cells slots ls ad cA tys P => ?_⟩
  obtain ⟨q1, q2, q3, q4, q5, q6, q7⟩ := P
  refine lv_lstore_n C.1 C.2.1 hd rfl q3 (by rw [← q4]; exact h3) rfl (fun ls' h' => ?_)
  refine g.2 H locs cells slots ls' ad cA tys ⟨q1, q2, am_has_sub h' (am_st2_mem (am_hF C) h4 h5), h2.trans q4, fun i w hw h9 => ?_, fun v hv => q6 v (List.mem_cons_of_mem _ hv), q7⟩
  by_cases hi : i = j.val
  · subst hi
    rw [h4] at hw
    cases hw
    exact q6 _ List.mem_cons_self
  · exact q5 i w (h5 i w hi hw h9).1 h9
theorem go_astore_n {p : Program} {l : Launch} {e : Env} {R : Room} {s : State} {m : MethodId} {args : Array Value} {below : List Frame} {meth : Method} {c : Code} {Q : State → Prop} {D : va_G} {B0 : Nat} {ka : Nat → Nat} {vF : Value} {md : Bool} {y n0 c0 s0 : Nat} {ad0 : Nat → Nat} {nf : Nat} {G : am_S → Prop} (hG : G = am_Go p l e R s m args below meth c Q D B0 ka vF md y n0 c0 s0 ad0 nf) (C : am_Cx p s m args c y B0 ka vF) {k : am_S → Option am_R} {r : am_R} (hk : ∀ S, k S = some r → G S) {pc nx : Nat} {L st : List am_V} {σ : am_M} {n : Nat} {j : Fin 4} (hd : decode (am_by y) pc = .ok (.astore_n j, 1)) (hn : nx = pc + 1) (h : (am_v1 st fun t z st => bif Nat.ble 10 t then am_s1 L j.val (t, z) fun L => k (nx, L, st, σ, n) else none) = some r) : G (pc, L, st, σ, n) := by
  subst hn
  obtain ⟨t, z, st', rfl, h⟩ := am_v1_some h
  obtain ⟨hb, h⟩ := am_bif_some h
  have ht : 10 ≤ t := Nat.le_of_ble_eq_true hb
  obtain ⟨L', k1, h2, h3, h4, h5⟩ := am_s1_some h
  have g := hk _ k1
  subst hG
  refine ⟨g.1, fun H locs cells slots ls ad cA tys P => ?_⟩
  obtain ⟨q1, q2, q3, q4, q5, q6, q7⟩ := P
  have K : ∀ ls' : Array Slot, lv_has ls' (am_ml y) ((j.val, am_cv ka vF ad (t, z)) :: (am_lv ka vF ad 0 L).filter (fun q => !(q.1 == j.val) && !(q.1 + 1 == j.val && q.2.category == 2))) → W p l e R s m args below meth c H locs cells slots Q (F0 m (pc + 1) ls' (st'.map (am_cv ka vF ad))) := by
    intro ls' h'
    refine g.2 H locs cells slots ls' ad cA tys ⟨q1, q2, am_has_sub h' (am_st1_mem (am_hF C) h4 h5), h2.trans q4, fun i w hw h9 => ?_, fun v hv => q6 v (List.mem_cons_of_mem _ hv), q7⟩
    by_cases hi : i = j.val
    · subst hi
      rw [h4] at hw
      cases hw
      exact q6 _ List.mem_cons_self
    · exact q5 i w (h5 i w hi hw h9).1 h9
  show W p l e R s m args below meth c H locs cells slots Q (F0 m pc ls (am_cv ka vF ad (t, z) :: st'.map (am_cv ka vF ad)))
  rcases am_cv_ref C.2.2.2.2.2.1.2.2.2.1 ht (q6 _ List.mem_cons_self) with q | ⟨a, q⟩
  · rw [q] at K ⊢
    exact lv_astore_nN C.1 C.2.1 hd rfl q3 (by rw [← q4]; exact h3) rfl K
  · rw [q] at K ⊢
    exact lv_astore_n C.1 C.2.1 hd rfl q3 (by rw [← q4]; exact h3) rfl K
theorem go_iinc {p : Program} {l : Launch} {e : Env} {R : Room} {s : State} {m : MethodId} {args : Array Value} {below : List Frame} {meth : Method} {c : Code} {Q : State → Prop} {D : va_G} {B0 : Nat} {ka : Nat → Nat} {vF : Value} {md : Bool} {y n0 c0 s0 : Nat} {ad0 : Nat → Nat} {nf : Nat} {G : am_S → Prop} (hG : G = am_Go p l e R s m args below meth c Q D B0 ka vF md y n0 c0 s0 ad0 nf) (C : am_Cx p s m args c y B0 ka vF) {k : am_S → Option am_R} {r : am_R} (hk : ∀ S, k S = some r → G S) {pc nx : Nat} {L st : List am_V} {σ : am_M} {n : Nat} {j : Nat} {ci : Int} (hd : decode (am_by y) pc = .ok (.iinc j ci, 3)) (hn : nx = pc + 3) (h : (am_ld L j fun t z => bif Nat.beq t 0 then am_s1 L j (0, am_w (z + ci)) fun L => k (nx, L, st, σ, n) else none) = some r) : G (pc, L, st, σ, n) := by
  subst hn
  obtain ⟨t, z, hl, h⟩ := am_ld_some h
  obtain ⟨hb, h⟩ := am_bif_some h
  obtain rfl : t = 0 := Nat.eq_of_beq_eq_true hb
  obtain ⟨L', k1, h2, h3, h4, h5⟩ := am_s1_some h
  have g := hk _ k1
  subst hG
  refine ⟨g.1, fun H locs cells slots ls ad cA tys P => ?_⟩
  obtain ⟨q1, q2, q3, q4, q5, q6, q7⟩ := P
  have hz := am_ok_i (q5 _ _ hl (show (0 : Nat) ≠ 9 by decide))
  obtain ⟨i0, hi0⟩ := List.getElem?_of_mem ((am_lv_mem (ka := ka) (vF := vF) (ad := ad) L 0 (j, .int (Int32.ofInt z))).mpr ⟨j, (0, z), hl, (show (0 : Nat) ≠ 9 by decide), by rw [Nat.zero_add]; rfl⟩)
  refine lv_iinc (v := Int32.ofInt (am_w (z + ci))) C.1 C.2.1 hd q3 hi0 (by rw [am_i_w]; exact (Int32.ofInt_add z ci).symm) (by rw [← q4]; exact h3) rfl (fun ls' h' => ?_)
  refine g.2 H locs cells slots ls' ad cA tys ⟨q1, q2, am_has_sub h' (am_st1_mem (am_hF C) h4 h5), h2.trans q4, fun i w hw h9 => ?_, q6, q7⟩
  by_cases hi : i = j
  · subst hi
    rw [h4] at hw
    cases hw
    exact am_ok_0 (am_w_r _)
  · exact q5 i w (h5 i w hi hw h9).1 h9
theorem go_goto {p : Program} {l : Launch} {e : Env} {R : Room} {s : State} {m : MethodId} {args : Array Value} {below : List Frame} {meth : Method} {c : Code} {Q : State → Prop} {D : va_G} {B0 : Nat} {ka : Nat → Nat} {vF : Value} {md : Bool} {y n0 c0 s0 : Nat} {ad0 : Nat → Nat} {nf : Nat} {G : am_S → Prop} (hG : G = am_Go p l e R s m args below meth c Q D B0 ka vF md y n0 c0 s0 ad0 nf) (C : am_Cx p s m args c y B0 ka vF) {k : am_S → Option am_R} {r : am_R} (hk : ∀ S, k S = some r → G S) {pc nx : Nat} {L st : List am_V} {σ : am_M} {n : Nat} {o : Int} {tg : Nat} (hd : decode (am_by y) pc = .ok (.goto o, 3)) (ht : (pc : Int) + o = (tg : Int)) (h : k (tg, L, st, σ, n) = some r) : G (pc, L, st, σ, n) :=
  go_rep hG C hk (us := []) (vs := []) (rest := st) rfl (fun H locs cells slots ls ad cA tys P => ⟨fun v hv => absurd hv List.not_mem_nil, fun K => lv_goto C.1 C.2.1 hd ht K⟩) h
theorem go_br {p : Program} {l : Launch} {e : Env} {R : Room} {s : State} {m : MethodId} {args : Array Value} {below : List Frame} {meth : Method} {c : Code} {Q : State → Prop} {D : va_G} {B0 : Nat} {ka : Nat → Nat} {vF : Value} {md : Bool} {y n0 c0 s0 : Nat} {ad0 : Nat → Nat} {nf : Nat} {G : am_S → Prop} (hG : G = am_Go p l e R s m args below meth c Q D B0 ka vF md y n0 c0 s0 ad0 nf) (C : am_Cx p s m args c y B0 ka vF) {k : am_S → Option am_R} {r : am_R} (hk : ∀ S, k S = some r → G S) {pc nx : Nat} {L st : List am_V} {σ : am_M} {n : Nat} {tg : Nat} {cond : Prop} {us rest : List am_V} (hst : st = us ++ rest) (hrow : ∀ (H : Heap) (locs : List Loc) (cells slots : Nat) (ls : Array Slot) (ad cA : Nat → Nat) (tys : List (ClassId × FieldType)), am_Pt s D B0 ka vF md y n0 c0 s0 ad0 ls L st σ n H locs cells slots ad cA tys → (cond → W p l e R s m args below meth c H locs cells slots Q (F0 m tg ls (rest.map (am_cv ka vF ad)))) → (¬ cond → W p l e R s m args below meth c H locs cells slots Q (F0 m nx ls (rest.map (am_cv ka vF ad)))) → W p l e R s m args below meth c H locs cells slots Q (F0 m pc ls (us.map (am_cv ka vF ad) ++ rest.map (am_cv ka vF ad)))) (h : (cond ∧ k (tg, L, rest, σ, n) = some r) ∨ (¬ cond ∧ k (nx, L, rest, σ, n) = some r)) : G (pc, L, st, σ, n) := by
  subst hG
  have nn : n ≤ nf := by
    rcases h with ⟨-, h⟩ | ⟨-, h⟩
    · exact (hk _ h).1
    · exact (hk _ h).1
  refine ⟨nn, fun H locs cells slots ls ad cA tys P => ?_⟩
  have P' : am_Pt s D B0 ka vF md y n0 c0 s0 ad0 ls L rest σ n H locs cells slots ad cA tys := by
    obtain ⟨q1, q2, q3, q4, q5, q6, q7⟩ := P
    exact ⟨q1, q2, q3, q4, q5, fun v hv => q6 v (by rw [hst]; exact List.mem_append_right _ hv), q7⟩
  have K := hrow H locs cells slots ls ad cA tys P
  dsimp only
  rw [hst, List.map_append]
  rcases h with ⟨hc, h⟩ | ⟨hc, h⟩
  · exact K (fun _ => (hk _ h).2 H locs cells slots ls ad cA tys P') (fun q => absurd hc q)
  · exact K (fun q => absurd q hc) (fun _ => (hk _ h).2 H locs cells slots ls ad cA tys P')
theorem am_ite_some {c : Prop} {dp : Decidable c} {x y : Option am_R} {r : am_R} (h : @ite _ c dp x y = some r) : (c ∧ x = some r) ∨ (¬ c ∧ y = some r) := by
  split at h
  · exact Or.inl ⟨by assumption, h⟩
  · exact Or.inr ⟨by assumption, h⟩
theorem am_ite_swap {c d : Prop} {x y : Option am_R} {r : am_R} (hd : d ↔ ¬ c) (h : (c ∧ y = some r) ∨ (¬ c ∧ x = some r)) : (d ∧ x = some r) ∨ (¬ d ∧ y = some r) := by
  rcases h with ⟨a, b⟩ | ⟨a, b⟩
  · exact Or.inr ⟨fun q => hd.mp q a, b⟩
  · exact Or.inl ⟨hd.mpr a, b⟩
theorem go_ifCond_eq {p : Program} {l : Launch} {e : Env} {R : Room} {s : State} {m : MethodId} {args : Array Value} {below : List Frame} {meth : Method} {c : Code} {Q : State → Prop} {D : va_G} {B0 : Nat} {ka : Nat → Nat} {vF : Value} {md : Bool} {y n0 c0 s0 : Nat} {ad0 : Nat → Nat} {nf : Nat} {G : am_S → Prop} (hG : G = am_Go p l e R s m args below meth c Q D B0 ka vF md y n0 c0 s0 ad0 nf) (C : am_Cx p s m args c y B0 ka vF) {k : am_S → Option am_R} {r : am_R} (hk : ∀ S, k S = some r → G S) {pc nx : Nat} {L st : List am_V} {σ : am_M} {n : Nat} {o : Int} {tg : Nat} (hd : decode (am_by y) pc = .ok (.ifCond .eq o, 3)) (hn : nx = pc + 3) (ht : (pc : Int) + o = (tg : Int)) (h : (am_i1 st fun a st => am_cond .eq a 0 (k (tg, L, st, σ, n)) (k (nx, L, st, σ, n))) = some r) : G (pc, L, st, σ, n) := by
  subst hn
  obtain ⟨a, st', rfl, h⟩ := am_i1_some h
  have h' : (a = 0 ∧ k (tg, L, st', σ, n) = some r) ∨ (¬ (a = 0) ∧ k (pc + 3, L, st', σ, n) = some r) := am_ite_some h
  refine go_br hG C hk (us := [(0, a)]) (rest := st') rfl (fun H locs cells slots ls ad cA tys P kt kf => ?_) h'
  have ha := am_ok_i (P.2.2.2.2.2.1 (0, a) (by simp))
  have hb0 : am_r32 0 := ⟨by decide, by decide⟩
  exact lv_if_eq C.1 C.2.1 hd ht (fun q => kt ((am_i_inj ha hb0).mp q)) (fun q => kf (fun z => q ((am_i_inj ha hb0).mpr z)))
theorem go_ifCond_ne {p : Program} {l : Launch} {e : Env} {R : Room} {s : State} {m : MethodId} {args : Array Value} {below : List Frame} {meth : Method} {c : Code} {Q : State → Prop} {D : va_G} {B0 : Nat} {ka : Nat → Nat} {vF : Value} {md : Bool} {y n0 c0 s0 : Nat} {ad0 : Nat → Nat} {nf : Nat} {G : am_S → Prop} (hG : G = am_Go p l e R s m args below meth c Q D B0 ka vF md y n0 c0 s0 ad0 nf) (C : am_Cx p s m args c y B0 ka vF) {k : am_S → Option am_R} {r : am_R} (hk : ∀ S, k S = some r → G S) {pc nx : Nat} {L st : List am_V} {σ : am_M} {n : Nat} {o : Int} {tg : Nat} (hd : decode (am_by y) pc = .ok (.ifCond .ne o, 3)) (hn : nx = pc + 3) (ht : (pc : Int) + o = (tg : Int)) (h : (am_i1 st fun a st => am_cond .ne a 0 (k (tg, L, st, σ, n)) (k (nx, L, st, σ, n))) = some r) : G (pc, L, st, σ, n) := by
  subst hn
  obtain ⟨a, st', rfl, h⟩ := am_i1_some h
  have h' : (¬ a = 0 ∧ k (tg, L, st', σ, n) = some r) ∨ (¬ (¬ a = 0) ∧ k (pc + 3, L, st', σ, n) = some r) := am_ite_swap (by omega) (am_ite_some h)
  refine go_br hG C hk (us := [(0, a)]) (rest := st') rfl (fun H locs cells slots ls ad cA tys P kt kf => ?_) h'
  have ha := am_ok_i (P.2.2.2.2.2.1 (0, a) (by simp))
  have hb0 : am_r32 0 := ⟨by decide, by decide⟩
  exact lv_if_ne C.1 C.2.1 hd ht (fun q => kt ((not_congr (am_i_inj ha hb0)).mp q)) (fun q => kf (fun z => z ((am_i_inj ha hb0).mp q)))
theorem go_ifCond_lt {p : Program} {l : Launch} {e : Env} {R : Room} {s : State} {m : MethodId} {args : Array Value} {below : List Frame} {meth : Method} {c : Code} {Q : State → Prop} {D : va_G} {B0 : Nat} {ka : Nat → Nat} {vF : Value} {md : Bool} {y n0 c0 s0 : Nat} {ad0 : Nat → Nat} {nf : Nat} {G : am_S → Prop} (hG : G = am_Go p l e R s m args below meth c Q D B0 ka vF md y n0 c0 s0 ad0 nf) (C : am_Cx p s m args c y B0 ka vF) {k : am_S → Option am_R} {r : am_R} (hk : ∀ S, k S = some r → G S) {pc nx : Nat} {L st : List am_V} {σ : am_M} {n : Nat} {o : Int} {tg : Nat} (hd : decode (am_by y) pc = .ok (.ifCond .lt o, 3)) (hn : nx = pc + 3) (ht : (pc : Int) + o = (tg : Int)) (h : (am_i1 st fun a st => am_cond .lt a 0 (k (tg, L, st, σ, n)) (k (nx, L, st, σ, n))) = some r) : G (pc, L, st, σ, n) := by
  subst hn
  obtain ⟨a, st', rfl, h⟩ := am_i1_some h
  have h' : (a < 0 ∧ k (tg, L, st', σ, n) = some r) ∨ (¬ (a < 0) ∧ k (pc + 3, L, st', σ, n) = some r) := am_ite_some h
  refine go_br hG C hk (us := [(0, a)]) (rest := st') rfl (fun H locs cells slots ls ad cA tys P kt kf => ?_) h'
  have ha := am_ok_i (P.2.2.2.2.2.1 (0, a) (by simp))
  have hb0 : am_r32 0 := ⟨by decide, by decide⟩
  exact lv_if_lt C.1 C.2.1 hd ht (fun q => kt ((am_i_lt ha hb0).mp q)) (fun q => kf (fun z => q ((am_i_lt ha hb0).mpr z)))
theorem go_ifCond_ge {p : Program} {l : Launch} {e : Env} {R : Room} {s : State} {m : MethodId} {args : Array Value} {below : List Frame} {meth : Method} {c : Code} {Q : State → Prop} {D : va_G} {B0 : Nat} {ka : Nat → Nat} {vF : Value} {md : Bool} {y n0 c0 s0 : Nat} {ad0 : Nat → Nat} {nf : Nat} {G : am_S → Prop} (hG : G = am_Go p l e R s m args below meth c Q D B0 ka vF md y n0 c0 s0 ad0 nf) (C : am_Cx p s m args c y B0 ka vF) {k : am_S → Option am_R} {r : am_R} (hk : ∀ S, k S = some r → G S) {pc nx : Nat} {L st : List am_V} {σ : am_M} {n : Nat} {o : Int} {tg : Nat} (hd : decode (am_by y) pc = .ok (.ifCond .ge o, 3)) (hn : nx = pc + 3) (ht : (pc : Int) + o = (tg : Int)) (h : (am_i1 st fun a st => am_cond .ge a 0 (k (tg, L, st, σ, n)) (k (nx, L, st, σ, n))) = some r) : G (pc, L, st, σ, n) := by
  subst hn
  obtain ⟨a, st', rfl, h⟩ := am_i1_some h
  have h' : (0 ≤ a ∧ k (tg, L, st', σ, n) = some r) ∨ (¬ (0 ≤ a) ∧ k (pc + 3, L, st', σ, n) = some r) := am_ite_swap (by omega) (am_ite_some h)
  refine go_br hG C hk (us := [(0, a)]) (rest := st') rfl (fun H locs cells slots ls ad cA tys P kt kf => ?_) h'
  have ha := am_ok_i (P.2.2.2.2.2.1 (0, a) (by simp))
  have hb0 : am_r32 0 := ⟨by decide, by decide⟩
  exact lv_if_ge C.1 C.2.1 hd ht (fun q => kt ((am_i_le hb0 ha).mp q)) (fun q => kf (fun z => q ((am_i_le hb0 ha).mpr z)))
theorem go_ifCond_gt {p : Program} {l : Launch} {e : Env} {R : Room} {s : State} {m : MethodId} {args : Array Value} {below : List Frame} {meth : Method} {c : Code} {Q : State → Prop} {D : va_G} {B0 : Nat} {ka : Nat → Nat} {vF : Value} {md : Bool} {y n0 c0 s0 : Nat} {ad0 : Nat → Nat} {nf : Nat} {G : am_S → Prop} (hG : G = am_Go p l e R s m args below meth c Q D B0 ka vF md y n0 c0 s0 ad0 nf) (C : am_Cx p s m args c y B0 ka vF) {k : am_S → Option am_R} {r : am_R} (hk : ∀ S, k S = some r → G S) {pc nx : Nat} {L st : List am_V} {σ : am_M} {n : Nat} {o : Int} {tg : Nat} (hd : decode (am_by y) pc = .ok (.ifCond .gt o, 3)) (hn : nx = pc + 3) (ht : (pc : Int) + o = (tg : Int)) (h : (am_i1 st fun a st => am_cond .gt a 0 (k (tg, L, st, σ, n)) (k (nx, L, st, σ, n))) = some r) : G (pc, L, st, σ, n) := by
  subst hn
  obtain ⟨a, st', rfl, h⟩ := am_i1_some h
  have h' : (0 < a ∧ k (tg, L, st', σ, n) = some r) ∨ (¬ (0 < a) ∧ k (pc + 3, L, st', σ, n) = some r) := am_ite_some h
  refine go_br hG C hk (us := [(0, a)]) (rest := st') rfl (fun H locs cells slots ls ad cA tys P kt kf => ?_) h'
  have ha := am_ok_i (P.2.2.2.2.2.1 (0, a) (by simp))
  have hb0 : am_r32 0 := ⟨by decide, by decide⟩
  exact lv_if_gt C.1 C.2.1 hd ht (fun q => kt ((am_i_lt hb0 ha).mp q)) (fun q => kf (fun z => q ((am_i_lt hb0 ha).mpr z)))
theorem go_ifCond_le {p : Program} {l : Launch} {e : Env} {R : Room} {s : State} {m : MethodId} {args : Array Value} {below : List Frame} {meth : Method} {c : Code} {Q : State → Prop} {D : va_G} {B0 : Nat} {ka : Nat → Nat} {vF : Value} {md : Bool} {y n0 c0 s0 : Nat} {ad0 : Nat → Nat} {nf : Nat} {G : am_S → Prop} (hG : G = am_Go p l e R s m args below meth c Q D B0 ka vF md y n0 c0 s0 ad0 nf) (C : am_Cx p s m args c y B0 ka vF) {k : am_S → Option am_R} {r : am_R} (hk : ∀ S, k S = some r → G S) {pc nx : Nat} {L st : List am_V} {σ : am_M} {n : Nat} {o : Int} {tg : Nat} (hd : decode (am_by y) pc = .ok (.ifCond .le o, 3)) (hn : nx = pc + 3) (ht : (pc : Int) + o = (tg : Int)) (h : (am_i1 st fun a st => am_cond .le a 0 (k (tg, L, st, σ, n)) (k (nx, L, st, σ, n))) = some r) : G (pc, L, st, σ, n) := by
  subst hn
  obtain ⟨a, st', rfl, h⟩ := am_i1_some h
  have h' : (a ≤ 0 ∧ k (tg, L, st', σ, n) = some r) ∨ (¬ (a ≤ 0) ∧ k (pc + 3, L, st', σ, n) = some r) := am_ite_swap (by omega) (am_ite_some h)
  refine go_br hG C hk (us := [(0, a)]) (rest := st') rfl (fun H locs cells slots ls ad cA tys P kt kf => ?_) h'
  have ha := am_ok_i (P.2.2.2.2.2.1 (0, a) (by simp))
  have hb0 : am_r32 0 := ⟨by decide, by decide⟩
  exact lv_if_le C.1 C.2.1 hd ht (fun q => kt ((am_i_le ha hb0).mp q)) (fun q => kf (fun z => q ((am_i_le ha hb0).mpr z)))
theorem go_if_icmp_eq {p : Program} {l : Launch} {e : Env} {R : Room} {s : State} {m : MethodId} {args : Array Value} {below : List Frame} {meth : Method} {c : Code} {Q : State → Prop} {D : va_G} {B0 : Nat} {ka : Nat → Nat} {vF : Value} {md : Bool} {y n0 c0 s0 : Nat} {ad0 : Nat → Nat} {nf : Nat} {G : am_S → Prop} (hG : G = am_Go p l e R s m args below meth c Q D B0 ka vF md y n0 c0 s0 ad0 nf) (C : am_Cx p s m args c y B0 ka vF) {k : am_S → Option am_R} {r : am_R} (hk : ∀ S, k S = some r → G S) {pc nx : Nat} {L st : List am_V} {σ : am_M} {n : Nat} {o : Int} {tg : Nat} (hd : decode (am_by y) pc = .ok (.if_icmp .eq o, 3)) (hn : nx = pc + 3) (ht : (pc : Int) + o = (tg : Int)) (h : (am_ii st fun a b st => am_cond .eq a b (k (tg, L, st, σ, n)) (k (nx, L, st, σ, n))) = some r) : G (pc, L, st, σ, n) := by
  subst hn
  obtain ⟨a, b, st', rfl, h⟩ := am_ii_some h
  have h' : (a = b ∧ k (tg, L, st', σ, n) = some r) ∨ (¬ (a = b) ∧ k (pc + 3, L, st', σ, n) = some r) := am_ite_some h
  refine go_br hG C hk (us := [(0, b), (0, a)]) (rest := st') rfl (fun H locs cells slots ls ad cA tys P kt kf => ?_) h'
  have ha := am_ok_i (P.2.2.2.2.2.1 (0, a) (by simp))
  have hb := am_ok_i (P.2.2.2.2.2.1 (0, b) (by simp))
  exact lv_icmp_eq C.1 C.2.1 hd ht (fun q => kt ((am_i_inj ha hb).mp q)) (fun q => kf (fun z => q ((am_i_inj ha hb).mpr z)))
theorem go_if_icmp_ne {p : Program} {l : Launch} {e : Env} {R : Room} {s : State} {m : MethodId} {args : Array Value} {below : List Frame} {meth : Method} {c : Code} {Q : State → Prop} {D : va_G} {B0 : Nat} {ka : Nat → Nat} {vF : Value} {md : Bool} {y n0 c0 s0 : Nat} {ad0 : Nat → Nat} {nf : Nat} {G : am_S → Prop} (hG : G = am_Go p l e R s m args below meth c Q D B0 ka vF md y n0 c0 s0 ad0 nf) (C : am_Cx p s m args c y B0 ka vF) {k : am_S → Option am_R} {r : am_R} (hk : ∀ S, k S = some r → G S) {pc nx : Nat} {L st : List am_V} {σ : am_M} {n : Nat} {o : Int} {tg : Nat} (hd : decode (am_by y) pc = .ok (.if_icmp .ne o, 3)) (hn : nx = pc + 3) (ht : (pc : Int) + o = (tg : Int)) (h : (am_ii st fun a b st => am_cond .ne a b (k (tg, L, st, σ, n)) (k (nx, L, st, σ, n))) = some r) : G (pc, L, st, σ, n) := by
  subst hn
  obtain ⟨a, b, st', rfl, h⟩ := am_ii_some h
  have h' : (¬ a = b ∧ k (tg, L, st', σ, n) = some r) ∨ (¬ (¬ a = b) ∧ k (pc + 3, L, st', σ, n) = some r) := am_ite_swap (by omega) (am_ite_some h)
  refine go_br hG C hk (us := [(0, b), (0, a)]) (rest := st') rfl (fun H locs cells slots ls ad cA tys P kt kf => ?_) h'
  have ha := am_ok_i (P.2.2.2.2.2.1 (0, a) (by simp))
  have hb := am_ok_i (P.2.2.2.2.2.1 (0, b) (by simp))
  exact lv_icmp_ne C.1 C.2.1 hd ht (fun q => kt ((not_congr (am_i_inj ha hb)).mp q)) (fun q => kf (fun z => z ((am_i_inj ha hb).mp q)))
theorem go_if_icmp_lt {p : Program} {l : Launch} {e : Env} {R : Room} {s : State} {m : MethodId} {args : Array Value} {below : List Frame} {meth : Method} {c : Code} {Q : State → Prop} {D : va_G} {B0 : Nat} {ka : Nat → Nat} {vF : Value} {md : Bool} {y n0 c0 s0 : Nat} {ad0 : Nat → Nat} {nf : Nat} {G : am_S → Prop} (hG : G = am_Go p l e R s m args below meth c Q D B0 ka vF md y n0 c0 s0 ad0 nf) (C : am_Cx p s m args c y B0 ka vF) {k : am_S → Option am_R} {r : am_R} (hk : ∀ S, k S = some r → G S) {pc nx : Nat} {L st : List am_V} {σ : am_M} {n : Nat} {o : Int} {tg : Nat} (hd : decode (am_by y) pc = .ok (.if_icmp .lt o, 3)) (hn : nx = pc + 3) (ht : (pc : Int) + o = (tg : Int)) (h : (am_ii st fun a b st => am_cond .lt a b (k (tg, L, st, σ, n)) (k (nx, L, st, σ, n))) = some r) : G (pc, L, st, σ, n) := by
  subst hn
  obtain ⟨a, b, st', rfl, h⟩ := am_ii_some h
  have h' : (a < b ∧ k (tg, L, st', σ, n) = some r) ∨ (¬ (a < b) ∧ k (pc + 3, L, st', σ, n) = some r) := am_ite_some h
  refine go_br hG C hk (us := [(0, b), (0, a)]) (rest := st') rfl (fun H locs cells slots ls ad cA tys P kt kf => ?_) h'
  have ha := am_ok_i (P.2.2.2.2.2.1 (0, a) (by simp))
  have hb := am_ok_i (P.2.2.2.2.2.1 (0, b) (by simp))
  exact lv_icmp_lt C.1 C.2.1 hd ht (fun q => kt ((am_i_lt ha hb).mp q)) (fun q => kf (fun z => q ((am_i_lt ha hb).mpr z)))
theorem go_if_icmp_ge {p : Program} {l : Launch} {e : Env} {R : Room} {s : State} {m : MethodId} {args : Array Value} {below : List Frame} {meth : Method} {c : Code} {Q : State → Prop} {D : va_G} {B0 : Nat} {ka : Nat → Nat} {vF : Value} {md : Bool} {y n0 c0 s0 : Nat} {ad0 : Nat → Nat} {nf : Nat} {G : am_S → Prop} (hG : G = am_Go p l e R s m args below meth c Q D B0 ka vF md y n0 c0 s0 ad0 nf) (C : am_Cx p s m args c y B0 ka vF) {k : am_S → Option am_R} {r : am_R} (hk : ∀ S, k S = some r → G S) {pc nx : Nat} {L st : List am_V} {σ : am_M} {n : Nat} {o : Int} {tg : Nat} (hd : decode (am_by y) pc = .ok (.if_icmp .ge o, 3)) (hn : nx = pc + 3) (ht : (pc : Int) + o = (tg : Int)) (h : (am_ii st fun a b st => am_cond .ge a b (k (tg, L, st, σ, n)) (k (nx, L, st, σ, n))) = some r) : G (pc, L, st, σ, n) := by
  subst hn
  obtain ⟨a, b, st', rfl, h⟩ := am_ii_some h
  have h' : (b ≤ a ∧ k (tg, L, st', σ, n) = some r) ∨ (¬ (b ≤ a) ∧ k (pc + 3, L, st', σ, n) = some r) := am_ite_swap (by omega) (am_ite_some h)
  refine go_br hG C hk (us := [(0, b), (0, a)]) (rest := st') rfl (fun H locs cells slots ls ad cA tys P kt kf => ?_) h'
  have ha := am_ok_i (P.2.2.2.2.2.1 (0, a) (by simp))
  have hb := am_ok_i (P.2.2.2.2.2.1 (0, b) (by simp))
  exact lv_icmp_ge C.1 C.2.1 hd ht (fun q => kt ((am_i_le hb ha).mp q)) (fun q => kf (fun z => q ((am_i_le hb ha).mpr z)))
theorem go_if_icmp_gt {p : Program} {l : Launch} {e : Env} {R : Room} {s : State} {m : MethodId} {args : Array Value} {below : List Frame} {meth : Method} {c : Code} {Q : State → Prop} {D : va_G} {B0 : Nat} {ka : Nat → Nat} {vF : Value} {md : Bool} {y n0 c0 s0 : Nat} {ad0 : Nat → Nat} {nf : Nat} {G : am_S → Prop} (hG : G = am_Go p l e R s m args below meth c Q D B0 ka vF md y n0 c0 s0 ad0 nf) (C : am_Cx p s m args c y B0 ka vF) {k : am_S → Option am_R} {r : am_R} (hk : ∀ S, k S = some r → G S) {pc nx : Nat} {L st : List am_V} {σ : am_M} {n : Nat} {o : Int} {tg : Nat} (hd : decode (am_by y) pc = .ok (.if_icmp .gt o, 3)) (hn : nx = pc + 3) (ht : (pc : Int) + o = (tg : Int)) (h : (am_ii st fun a b st => am_cond .gt a b (k (tg, L, st, σ, n)) (k (nx, L, st, σ, n))) = some r) : G (pc, L, st, σ, n) := by
  subst hn
  obtain ⟨a, b, st', rfl, h⟩ := am_ii_some h
  have h' : (b < a ∧ k (tg, L, st', σ, n) = some r) ∨ (¬ (b < a) ∧ k (pc + 3, L, st', σ, n) = some r) := am_ite_some h
  refine go_br hG C hk (us := [(0, b), (0, a)]) (rest := st') rfl (fun H locs cells slots ls ad cA tys P kt kf => ?_) h'
  have ha := am_ok_i (P.2.2.2.2.2.1 (0, a) (by simp))
  have hb := am_ok_i (P.2.2.2.2.2.1 (0, b) (by simp))
  exact lv_icmp_gt C.1 C.2.1 hd ht (fun q => kt ((am_i_lt hb ha).mp q)) (fun q => kf (fun z => q ((am_i_lt hb ha).mpr z)))
theorem go_if_icmp_le {p : Program} {l : Launch} {e : Env} {R : Room} {s : State} {m : MethodId} {args : Array Value} {below : List Frame} {meth : Method} {c : Code} {Q : State → Prop} {D : va_G} {B0 : Nat} {ka : Nat → Nat} {vF : Value} {md : Bool} {y n0 c0 s0 : Nat} {ad0 : Nat → Nat} {nf : Nat} {G : am_S → Prop} (hG : G = am_Go p l e R s m args below meth c Q D B0 ka vF md y n0 c0 s0 ad0 nf) (C : am_Cx p s m args c y B0 ka vF) {k : am_S → Option am_R} {r : am_R} (hk : ∀ S, k S = some r → G S) {pc nx : Nat} {L st : List am_V} {σ : am_M} {n : Nat} {o : Int} {tg : Nat} (hd : decode (am_by y) pc = .ok (.if_icmp .le o, 3)) (hn : nx = pc + 3) (ht : (pc : Int) + o = (tg : Int)) (h : (am_ii st fun a b st => am_cond .le a b (k (tg, L, st, σ, n)) (k (nx, L, st, σ, n))) = some r) : G (pc, L, st, σ, n) := by
  subst hn
  obtain ⟨a, b, st', rfl, h⟩ := am_ii_some h
  have h' : (a ≤ b ∧ k (tg, L, st', σ, n) = some r) ∨ (¬ (a ≤ b) ∧ k (pc + 3, L, st', σ, n) = some r) := am_ite_swap (by omega) (am_ite_some h)
  refine go_br hG C hk (us := [(0, b), (0, a)]) (rest := st') rfl (fun H locs cells slots ls ad cA tys P kt kf => ?_) h'
  have ha := am_ok_i (P.2.2.2.2.2.1 (0, a) (by simp))
  have hb := am_ok_i (P.2.2.2.2.2.1 (0, b) (by simp))
  exact lv_icmp_le C.1 C.2.1 hd ht (fun q => kt ((am_i_le ha hb).mp q)) (fun q => kf (fun z => q ((am_i_le ha hb).mpr z)))
theorem go_ifnonnull {p : Program} {l : Launch} {e : Env} {R : Room} {s : State} {m : MethodId} {args : Array Value} {below : List Frame} {meth : Method} {c : Code} {Q : State → Prop} {D : va_G} {B0 : Nat} {ka : Nat → Nat} {vF : Value} {md : Bool} {y n0 c0 s0 : Nat} {ad0 : Nat → Nat} {nf : Nat} {G : am_S → Prop} (hG : G = am_Go p l e R s m args below meth c Q D B0 ka vF md y n0 c0 s0 ad0 nf) (C : am_Cx p s m args c y B0 ka vF) {k : am_S → Option am_R} {r : am_R} (hk : ∀ S, k S = some r → G S) {pc nx : Nat} {L st : List am_V} {σ : am_M} {n : Nat} {o : Int} {tg : Nat} (hd : decode (am_by y) pc = .ok (.ifnonnull o, 3)) (hn : nx = pc + 3) (ht : (pc : Int) + o = (tg : Int)) (h : (am_v1 st fun t z st => bif Nat.ble 100 t then (if z < 0 then k (nx, L, st, σ, n) else k (tg, L, st, σ, n)) else none) = some r) : G (pc, L, st, σ, n) := by
  subst hn
  obtain ⟨t, z, st', rfl, h⟩ := am_v1_some h
  obtain ⟨hb, h⟩ := am_bif_some h
  have h9 : 100 ≤ t := Nat.le_of_ble_eq_true hb
  have h' : (¬ z < 0 ∧ k (tg, L, st', σ, n) = some r) ∨ (¬ ¬ z < 0 ∧ k (pc + 3, L, st', σ, n) = some r) := by
    rcases am_ite_some h with ⟨a, b⟩ | ⟨a, b⟩
    · exact Or.inr ⟨fun q => q a, b⟩
    · exact Or.inl ⟨a, b⟩
  refine go_br hG C hk (us := [(t, z)]) (rest := st') rfl (fun H locs cells slots ls ad cA tys P kt kf => ?_) h'
  have ha := P.2.2.2.2.2.1 (t, z) (by simp)
  have hN := P.2.1.2.2.2.2.2.2
  have hr : am_isr t = true ∧ (z = -1 ∨ (0 ≤ z ∧ z < (n : Int) ∧ am_tag z.toNat = t)) := by
    unfold am_ok at ha
    dsimp only at ha
    rcases ha with q | q | q | q | q | q | q
    · exact absurd q.1 (by omega)
    · exact absurd q.1 (by omega)
    · exact absurd q.1 (by omega)
    · exact absurd q (by omega)
    · exact absurd q.1 (by omega)
    · exact absurd q.1 (by omega)
    · exact q
  obtain ⟨hr, e⟩ := hr
  rcases e with e | ⟨e1, e2, -⟩
  · subst e
    have kf := kf (fun q => q (by decide))
    show W p l e R s m args below meth c H locs cells slots Q (F0 m pc ls (am_cv ka vF ad (t, -1) :: st'.map (am_cv ka vF ad)))
    rw [am_cv_null hr]
    exact lv_ifnonnullN C.1 C.2.1 hd kf
  · have kt := kt (by omega)
    show W p l e R s m args below meth c H locs cells slots Q (F0 m pc ls (am_cv ka vF ad (t, z) :: st'.map (am_cv ka vF ad)))
    rw [am_cv_r hr (by omega) (by omega)]
    exact lv_ifnonnull C.1 C.2.1 hd ht kt
