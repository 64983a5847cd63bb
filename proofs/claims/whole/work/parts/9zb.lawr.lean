/-! THE LAW'S BODY: the rules with the locals of the frame held fixed -/
def la_Go (ls : Array Slot) (p : Program) (l : Launch) (e : Env) (R : Room) (s : State) (m : MethodId) (args : Array Value) (below : List Frame) (meth : Method) (c : Code) (Q : State → Prop) (D : va_G) (B0 : Nat) (ka : Nat → Nat) (vF : Value) (md : Bool) (y n0 c0 s0 : Nat) (ad0 : Nat → Nat) (nf : Nat) (S : am_S) : Prop :=
  S.2.2.2.2 ≤ nf ∧ ∀ (H : Heap) (locs : List Loc) (cells slots : Nat) (ad cA : Nat → Nat) (tys : List (ClassId × FieldType)), am_Pt s D B0 ka vF md y n0 c0 s0 ad0 ls S.2.1 S.2.2.1 S.2.2.2.1 S.2.2.2.2 H locs cells slots ad cA tys →
    W p l e R s m args below meth c H locs cells slots Q (F0 m S.1 ls (S.2.2.1.map (am_cv ka vF ad)))
theorem la_rep {ls : Array Slot} {p : Program} {l : Launch} {e : Env} {R : Room} {s : State} {m : MethodId} {args : Array Value} {below : List Frame} {meth : Method} {c : Code} {Q : State → Prop} {D : va_G} {B0 : Nat} {ka : Nat → Nat} {vF : Value} {md : Bool} {y n0 c0 s0 : Nat} {ad0 : Nat → Nat} {nf : Nat} {G : am_S → Prop} (hG : G = la_Go ls p l e R s m args below meth c Q D B0 ka vF md y n0 c0 s0 ad0 nf) (C : am_Cx p s m args c y B0 ka vF) {k : am_S → Option am_R} {r : am_R} (hk : ∀ S, k S = some r → G S) {pc nx : Nat} {L st : List am_V} {σ : am_M} {n : Nat} {us vs rest : List am_V} (hst : st = us ++ rest) (hrow : ∀ (H : Heap) (locs : List Loc) (cells slots : Nat) (ad cA : Nat → Nat) (tys : List (ClassId × FieldType)), am_Pt s D B0 ka vF md y n0 c0 s0 ad0 ls L st σ n H locs cells slots ad cA tys → (∀ v ∈ vs, am_ok n v) ∧ (W p l e R s m args below meth c H locs cells slots Q (F0 m nx ls (vs.map (am_cv ka vF ad) ++ rest.map (am_cv ka vF ad))) → W p l e R s m args below meth c H locs cells slots Q (F0 m pc ls (us.map (am_cv ka vF ad) ++ rest.map (am_cv ka vF ad))))) (h : k (nx, L, vs ++ rest, σ, n) = some r) : G (pc, L, st, σ, n) := by
  subst hG
  have h1 := hk _ h
  refine ⟨h1.1, fun H locs cells slots ad cA tys P => ?_⟩
  obtain ⟨hv, hr⟩ := hrow H locs cells slots ad cA tys P
  obtain ⟨q1, q2, q3, q4, q5, q6, q7⟩ := P
  have h2 := h1.2 H locs cells slots ad cA tys ⟨q1, q2, q3, q4, q5, fun v hv' => ?_, q7⟩
  · dsimp only at h2 ⊢
    rw [List.map_append] at h2
    rw [hst, List.map_append]
    exact hr h2
  · rcases List.mem_append.mp hv' with q | q
    · exact hv v q
    · exact q6 v (by rw [hst]; exact List.mem_append_right _ q)
theorem la_iconst {ls : Array Slot} {p : Program} {l : Launch} {e : Env} {R : Room} {s : State} {m : MethodId} {args : Array Value} {below : List Frame} {meth : Method} {c : Code} {Q : State → Prop} {D : va_G} {B0 : Nat} {ka : Nat → Nat} {vF : Value} {md : Bool} {y n0 c0 s0 : Nat} {ad0 : Nat → Nat} {nf : Nat} {G : am_S → Prop} (hG : G = la_Go ls p l e R s m args below meth c Q D B0 ka vF md y n0 c0 s0 ad0 nf) (C : am_Cx p s m args c y B0 ka vF) {k : am_S → Option am_R} {r : am_R} (hk : ∀ S, k S = some r → G S) {pc nx : Nat} {L st : List am_V} {σ : am_M} {n : Nat} {z : Int} (hd : decode (am_by y) pc = .ok (.iconst z, 1)) (hn : nx = pc + 1) (h : (bif am_in 128 z then k (nx, L, (0, z) :: st, σ, n) else none) = some r) : G (pc, L, st, σ, n) := by
  subst hn
  obtain ⟨hb, h⟩ := am_bif_some h
  have hz := am_in_r hb
  refine la_rep hG C hk (us := []) (vs := [(0, z)]) (rest := st) rfl (fun H locs cells slots ad cA tys P => ⟨fun v hv => ?_, fun K => ?_⟩) h
  · rw [List.mem_singleton] at hv; subst hv; exact am_ok_0 ⟨by omega, by omega⟩
  · exact lv_iconst C.1 C.2.1 hd rfl K
theorem la_bipush {ls : Array Slot} {p : Program} {l : Launch} {e : Env} {R : Room} {s : State} {m : MethodId} {args : Array Value} {below : List Frame} {meth : Method} {c : Code} {Q : State → Prop} {D : va_G} {B0 : Nat} {ka : Nat → Nat} {vF : Value} {md : Bool} {y n0 c0 s0 : Nat} {ad0 : Nat → Nat} {nf : Nat} {G : am_S → Prop} (hG : G = la_Go ls p l e R s m args below meth c Q D B0 ka vF md y n0 c0 s0 ad0 nf) (C : am_Cx p s m args c y B0 ka vF) {k : am_S → Option am_R} {r : am_R} (hk : ∀ S, k S = some r → G S) {pc nx : Nat} {L st : List am_V} {σ : am_M} {n : Nat} {z : Int} (hd : decode (am_by y) pc = .ok (.bipush z, 2)) (hn : nx = pc + 2) (h : (bif am_in 128 z then k (nx, L, (0, z) :: st, σ, n) else none) = some r) : G (pc, L, st, σ, n) := by
  subst hn
  obtain ⟨hb, h⟩ := am_bif_some h
  have hz := am_in_r hb
  refine la_rep hG C hk (us := []) (vs := [(0, z)]) (rest := st) rfl (fun H locs cells slots ad cA tys P => ⟨fun v hv => ?_, fun K => ?_⟩) h
  · rw [List.mem_singleton] at hv; subst hv; exact am_ok_0 ⟨by omega, by omega⟩
  · exact lv_bipush C.1 C.2.1 hd (am_bip hz) K
theorem la_iload_n {ls : Array Slot} {p : Program} {l : Launch} {e : Env} {R : Room} {s : State} {m : MethodId} {args : Array Value} {below : List Frame} {meth : Method} {c : Code} {Q : State → Prop} {D : va_G} {B0 : Nat} {ka : Nat → Nat} {vF : Value} {md : Bool} {y n0 c0 s0 : Nat} {ad0 : Nat → Nat} {nf : Nat} {G : am_S → Prop} (hG : G = la_Go ls p l e R s m args below meth c Q D B0 ka vF md y n0 c0 s0 ad0 nf) (C : am_Cx p s m args c y B0 ka vF) {k : am_S → Option am_R} {r : am_R} (hk : ∀ S, k S = some r → G S) {pc nx : Nat} {L st : List am_V} {σ : am_M} {n : Nat} {j : Fin 4} (hd : decode (am_by y) pc = .ok (.iload_n j, 1)) (hn : nx = pc + 1) (h : (am_ld L j.val fun t z => bif Nat.beq t 0 then k (nx, L, (t, z) :: st, σ, n) else none) = some r) : G (pc, L, st, σ, n) := by
  subst hn
  obtain ⟨t, z, hl, h⟩ := am_ld_some h
  obtain ⟨hb, h⟩ := am_bif_some h
  obtain rfl : t = 0 := Nat.eq_of_beq_eq_true hb
  refine la_rep hG C hk (us := []) (vs := [(0, z)]) (rest := st) rfl (fun H locs cells slots ad cA tys P => ⟨fun v hv => ?_, fun K => ?_⟩) h
  · rw [List.mem_singleton] at hv; subst hv; exact P.2.2.2.2.1 _ _ hl (show (0 : Nat) ≠ 9 by decide)
  · exact lv_iload_n C.1 C.2.1 hd rfl (am_ld_at hl (show (0 : Nat) ≠ 9 by decide) P.2.2.1) K
theorem la_aload_n {ls : Array Slot} {p : Program} {l : Launch} {e : Env} {R : Room} {s : State} {m : MethodId} {args : Array Value} {below : List Frame} {meth : Method} {c : Code} {Q : State → Prop} {D : va_G} {B0 : Nat} {ka : Nat → Nat} {vF : Value} {md : Bool} {y n0 c0 s0 : Nat} {ad0 : Nat → Nat} {nf : Nat} {G : am_S → Prop} (hG : G = la_Go ls p l e R s m args below meth c Q D B0 ka vF md y n0 c0 s0 ad0 nf) (C : am_Cx p s m args c y B0 ka vF) {k : am_S → Option am_R} {r : am_R} (hk : ∀ S, k S = some r → G S) {pc nx : Nat} {L st : List am_V} {σ : am_M} {n : Nat} {j : Fin 4} (hd : decode (am_by y) pc = .ok (.aload_n j, 1)) (hn : nx = pc + 1) (h : (am_ld L j.val fun t z => bif Nat.ble 10 t then k (nx, L, (t, z) :: st, σ, n) else none) = some r) : G (pc, L, st, σ, n) := by
  subst hn
  obtain ⟨t, z, hl, h⟩ := am_ld_some h
  obtain ⟨hb, h⟩ := am_bif_some h
  have ht : 10 ≤ t := Nat.le_of_ble_eq_true hb
  have h9 : t ≠ 9 := by omega
  refine la_rep hG C hk (us := []) (vs := [(t, z)]) (rest := st) rfl (fun H locs cells slots ad cA tys P => ⟨fun v hv => ?_, fun K => ?_⟩) h
  · rw [List.mem_singleton] at hv; subst hv; exact P.2.2.2.2.1 _ _ hl h9
  · have a1 := am_ld_at hl h9 P.2.2.1
    rcases am_cv_ref C.2.2.2.2.2.1.2.2.2.1 ht (P.2.2.2.2.1 _ _ hl h9) with q | ⟨a, q⟩
    · change W p l e R s m args below meth c H locs cells slots Q (F0 m _ ls (am_cv ka vF ad (t, z) :: _)) at K
      rw [q] at K a1
      exact lv_aload_nN C.1 C.2.1 hd rfl a1 K
    · change W p l e R s m args below meth c H locs cells slots Q (F0 m _ ls (am_cv ka vF ad (t, z) :: _)) at K
      rw [q] at K a1
      exact lv_aload_n C.1 C.2.1 hd rfl a1 K
theorem la_iadd {ls : Array Slot} {p : Program} {l : Launch} {e : Env} {R : Room} {s : State} {m : MethodId} {args : Array Value} {below : List Frame} {meth : Method} {c : Code} {Q : State → Prop} {D : va_G} {B0 : Nat} {ka : Nat → Nat} {vF : Value} {md : Bool} {y n0 c0 s0 : Nat} {ad0 : Nat → Nat} {nf : Nat} {G : am_S → Prop} (hG : G = la_Go ls p l e R s m args below meth c Q D B0 ka vF md y n0 c0 s0 ad0 nf) (C : am_Cx p s m args c y B0 ka vF) {k : am_S → Option am_R} {r : am_R} (hk : ∀ S, k S = some r → G S) {pc nx : Nat} {L st : List am_V} {σ : am_M} {n : Nat} (hd : decode (am_by y) pc = .ok (.iadd, 1)) (hn : nx = pc + 1) (h : (am_ii st fun a b st => k (nx, L, (0, am_w (a + b)) :: st, σ, n)) = some r) : G (pc, L, st, σ, n) := by
  subst hn
  obtain ⟨a, b, st', rfl, h⟩ := am_ii_some h
  refine la_rep hG C hk (us := [(0, b), (0, a)]) (vs := [(0, am_w (a + b))]) (rest := st') rfl (fun H locs cells slots ad cA tys P => ?_) h
  have hb := am_ok_i (P.2.2.2.2.2.1 (0, b) (by simp))
  have ha := am_ok_i (P.2.2.2.2.2.1 (0, a) (by simp))
  refine ⟨fun v hv => ?_, fun K => ?_⟩
  · rw [List.mem_singleton] at hv; subst hv; exact am_ok_0 (am_w_r _)
  · refine lv_iadd C.1 C.2.1 hd ?_
    rw [am_i_add ha hb]
    exact K
theorem la_isub {ls : Array Slot} {p : Program} {l : Launch} {e : Env} {R : Room} {s : State} {m : MethodId} {args : Array Value} {below : List Frame} {meth : Method} {c : Code} {Q : State → Prop} {D : va_G} {B0 : Nat} {ka : Nat → Nat} {vF : Value} {md : Bool} {y n0 c0 s0 : Nat} {ad0 : Nat → Nat} {nf : Nat} {G : am_S → Prop} (hG : G = la_Go ls p l e R s m args below meth c Q D B0 ka vF md y n0 c0 s0 ad0 nf) (C : am_Cx p s m args c y B0 ka vF) {k : am_S → Option am_R} {r : am_R} (hk : ∀ S, k S = some r → G S) {pc nx : Nat} {L st : List am_V} {σ : am_M} {n : Nat} (hd : decode (am_by y) pc = .ok (.isub, 1)) (hn : nx = pc + 1) (h : (am_ii st fun a b st => k (nx, L, (0, am_w (a - b)) :: st, σ, n)) = some r) : G (pc, L, st, σ, n) := by
  subst hn
  obtain ⟨a, b, st', rfl, h⟩ := am_ii_some h
  refine la_rep hG C hk (us := [(0, b), (0, a)]) (vs := [(0, am_w (a - b))]) (rest := st') rfl (fun H locs cells slots ad cA tys P => ?_) h
  have hb := am_ok_i (P.2.2.2.2.2.1 (0, b) (by simp))
  have ha := am_ok_i (P.2.2.2.2.2.1 (0, a) (by simp))
  refine ⟨fun v hv => ?_, fun K => ?_⟩
  · rw [List.mem_singleton] at hv; subst hv; exact am_ok_0 (am_w_r _)
  · refine lv_isub C.1 C.2.1 hd ?_
    rw [am_i_sub ha hb]
    exact K
theorem la_iand {ls : Array Slot} {p : Program} {l : Launch} {e : Env} {R : Room} {s : State} {m : MethodId} {args : Array Value} {below : List Frame} {meth : Method} {c : Code} {Q : State → Prop} {D : va_G} {B0 : Nat} {ka : Nat → Nat} {vF : Value} {md : Bool} {y n0 c0 s0 : Nat} {ad0 : Nat → Nat} {nf : Nat} {G : am_S → Prop} (hG : G = la_Go ls p l e R s m args below meth c Q D B0 ka vF md y n0 c0 s0 ad0 nf) (C : am_Cx p s m args c y B0 ka vF) {k : am_S → Option am_R} {r : am_R} (hk : ∀ S, k S = some r → G S) {pc nx : Nat} {L st : List am_V} {σ : am_M} {n : Nat} (hd : decode (am_by y) pc = .ok (.iand, 1)) (hn : nx = pc + 1) (h : (am_ii st fun a b st => k (nx, L, (0, am_and a b) :: st, σ, n)) = some r) : G (pc, L, st, σ, n) := by
  subst hn
  obtain ⟨a, b, st', rfl, h⟩ := am_ii_some h
  refine la_rep hG C hk (us := [(0, b), (0, a)]) (vs := [(0, am_and a b)]) (rest := st') rfl (fun H locs cells slots ad cA tys P => ?_) h
  have hb := am_ok_i (P.2.2.2.2.2.1 (0, b) (by simp))
  have ha := am_ok_i (P.2.2.2.2.2.1 (0, a) (by simp))
  refine ⟨fun v hv => ?_, fun K => ?_⟩
  · rw [List.mem_singleton] at hv; subst hv; exact am_ok_0 (am_bv32 _)
  · refine lv_iand C.1 C.2.1 hd ?_
    rw [am_i_and]
    exact K
theorem la_land {ls : Array Slot} {p : Program} {l : Launch} {e : Env} {R : Room} {s : State} {m : MethodId} {args : Array Value} {below : List Frame} {meth : Method} {c : Code} {Q : State → Prop} {D : va_G} {B0 : Nat} {ka : Nat → Nat} {vF : Value} {md : Bool} {y n0 c0 s0 : Nat} {ad0 : Nat → Nat} {nf : Nat} {G : am_S → Prop} (hG : G = la_Go ls p l e R s m args below meth c Q D B0 ka vF md y n0 c0 s0 ad0 nf) (C : am_Cx p s m args c y B0 ka vF) {k : am_S → Option am_R} {r : am_R} (hk : ∀ S, k S = some r → G S) {pc nx : Nat} {L st : List am_V} {σ : am_M} {n : Nat} (hd : decode (am_by y) pc = .ok (.land, 1)) (hn : nx = pc + 1) (h : (am_ll st fun a b st => k (nx, L, (1, am_land a b) :: st, σ, n)) = some r) : G (pc, L, st, σ, n) := by
  subst hn
  obtain ⟨a, b, st', rfl, h⟩ := am_ll_some h
  refine la_rep hG C hk (us := [(1, b), (1, a)]) (vs := [(1, am_land a b)]) (rest := st') rfl (fun H locs cells slots ad cA tys P => ?_) h
  have hb := am_ok_l (P.2.2.2.2.2.1 (1, b) (by simp))
  have ha := am_ok_l (P.2.2.2.2.2.1 (1, a) (by simp))
  refine ⟨fun v hv => ?_, fun K => ?_⟩
  · rw [List.mem_singleton] at hv; subst hv; exact am_ok_1 (am_bv64 _)
  · refine lv_land C.1 C.2.1 hd ?_
    rw [am_l_and]
    exact K
theorem la_lor {ls : Array Slot} {p : Program} {l : Launch} {e : Env} {R : Room} {s : State} {m : MethodId} {args : Array Value} {below : List Frame} {meth : Method} {c : Code} {Q : State → Prop} {D : va_G} {B0 : Nat} {ka : Nat → Nat} {vF : Value} {md : Bool} {y n0 c0 s0 : Nat} {ad0 : Nat → Nat} {nf : Nat} {G : am_S → Prop} (hG : G = la_Go ls p l e R s m args below meth c Q D B0 ka vF md y n0 c0 s0 ad0 nf) (C : am_Cx p s m args c y B0 ka vF) {k : am_S → Option am_R} {r : am_R} (hk : ∀ S, k S = some r → G S) {pc nx : Nat} {L st : List am_V} {σ : am_M} {n : Nat} (hd : decode (am_by y) pc = .ok (.lor, 1)) (hn : nx = pc + 1) (h : (am_ll st fun a b st => k (nx, L, (1, am_lor a b) :: st, σ, n)) = some r) : G (pc, L, st, σ, n) := by
  subst hn
  obtain ⟨a, b, st', rfl, h⟩ := am_ll_some h
  refine la_rep hG C hk (us := [(1, b), (1, a)]) (vs := [(1, am_lor a b)]) (rest := st') rfl (fun H locs cells slots ad cA tys P => ?_) h
  have hb := am_ok_l (P.2.2.2.2.2.1 (1, b) (by simp))
  have ha := am_ok_l (P.2.2.2.2.2.1 (1, a) (by simp))
  refine ⟨fun v hv => ?_, fun K => ?_⟩
  · rw [List.mem_singleton] at hv; subst hv; exact am_ok_1 (am_bv64 _)
  · refine lv_lor C.1 C.2.1 hd ?_
    rw [am_l_or]
    exact K
theorem la_lshl {ls : Array Slot} {p : Program} {l : Launch} {e : Env} {R : Room} {s : State} {m : MethodId} {args : Array Value} {below : List Frame} {meth : Method} {c : Code} {Q : State → Prop} {D : va_G} {B0 : Nat} {ka : Nat → Nat} {vF : Value} {md : Bool} {y n0 c0 s0 : Nat} {ad0 : Nat → Nat} {nf : Nat} {G : am_S → Prop} (hG : G = la_Go ls p l e R s m args below meth c Q D B0 ka vF md y n0 c0 s0 ad0 nf) (C : am_Cx p s m args c y B0 ka vF) {k : am_S → Option am_R} {r : am_R} (hk : ∀ S, k S = some r → G S) {pc nx : Nat} {L st : List am_V} {σ : am_M} {n : Nat} (hd : decode (am_by y) pc = .ok (.lshl, 1)) (hn : nx = pc + 1) (h : (am_li st fun a b st => k (nx, L, (1, am_lshl a b) :: st, σ, n)) = some r) : G (pc, L, st, σ, n) := by
  subst hn
  obtain ⟨a, b, st', rfl, h⟩ := am_li_some h
  refine la_rep hG C hk (us := [(0, b), (1, a)]) (vs := [(1, am_lshl a b)]) (rest := st') rfl (fun H locs cells slots ad cA tys P => ?_) h
  have hb := am_ok_i (P.2.2.2.2.2.1 (0, b) (by simp))
  have ha := am_ok_l (P.2.2.2.2.2.1 (1, a) (by simp))
  refine ⟨fun v hv => ?_, fun K => ?_⟩
  · rw [List.mem_singleton] at hv; subst hv; exact am_ok_1 (am_x_r _)
  · refine lv_lshl C.1 C.2.1 hd rfl ?_
    rw [am_l_shl hb]
    exact K
theorem la_lcmp {ls : Array Slot} {p : Program} {l : Launch} {e : Env} {R : Room} {s : State} {m : MethodId} {args : Array Value} {below : List Frame} {meth : Method} {c : Code} {Q : State → Prop} {D : va_G} {B0 : Nat} {ka : Nat → Nat} {vF : Value} {md : Bool} {y n0 c0 s0 : Nat} {ad0 : Nat → Nat} {nf : Nat} {G : am_S → Prop} (hG : G = la_Go ls p l e R s m args below meth c Q D B0 ka vF md y n0 c0 s0 ad0 nf) (C : am_Cx p s m args c y B0 ka vF) {k : am_S → Option am_R} {r : am_R} (hk : ∀ S, k S = some r → G S) {pc nx : Nat} {L st : List am_V} {σ : am_M} {n : Nat} (hd : decode (am_by y) pc = .ok (.lcmp, 1)) (hn : nx = pc + 1) (h : (am_ll st fun a b st => k (nx, L, (0, am_cmp a b) :: st, σ, n)) = some r) : G (pc, L, st, σ, n) := by
  subst hn
  obtain ⟨a, b, st', rfl, h⟩ := am_ll_some h
  refine la_rep hG C hk (us := [(1, b), (1, a)]) (vs := [(0, am_cmp a b)]) (rest := st') rfl (fun H locs cells slots ad cA tys P => ?_) h
  have hb := am_ok_l (P.2.2.2.2.2.1 (1, b) (by simp))
  have ha := am_ok_l (P.2.2.2.2.2.1 (1, a) (by simp))
  refine ⟨fun v hv => ?_, fun K => ?_⟩
  · rw [List.mem_singleton] at hv; subst hv; exact am_ok_0 (am_cmp_r a b)
  · refine W.lcmp C.1 C.2.1 hd ?_
    rw [am_l_cmp ha hb]
    exact K
theorem la_i2l {ls : Array Slot} {p : Program} {l : Launch} {e : Env} {R : Room} {s : State} {m : MethodId} {args : Array Value} {below : List Frame} {meth : Method} {c : Code} {Q : State → Prop} {D : va_G} {B0 : Nat} {ka : Nat → Nat} {vF : Value} {md : Bool} {y n0 c0 s0 : Nat} {ad0 : Nat → Nat} {nf : Nat} {G : am_S → Prop} (hG : G = la_Go ls p l e R s m args below meth c Q D B0 ka vF md y n0 c0 s0 ad0 nf) (C : am_Cx p s m args c y B0 ka vF) {k : am_S → Option am_R} {r : am_R} (hk : ∀ S, k S = some r → G S) {pc nx : Nat} {L st : List am_V} {σ : am_M} {n : Nat} (hd : decode (am_by y) pc = .ok (.i2l, 1)) (hn : nx = pc + 1) (h : (am_i1 st fun a st => k (nx, L, (1, a) :: st, σ, n)) = some r) : G (pc, L, st, σ, n) := by
  subst hn
  obtain ⟨a, st', rfl, h⟩ := am_i1_some h
  refine la_rep hG C hk (us := [(0, a)]) (vs := [(1, a)]) (rest := st') rfl (fun H locs cells slots ad cA tys P => ?_) h
  have ha := am_ok_i (P.2.2.2.2.2.1 (0, a) (by simp))
  refine ⟨fun v hv => ?_, fun K => ?_⟩
  · rw [List.mem_singleton] at hv; subst hv; exact am_ok_1 ⟨by have := ha.1; omega, by have := ha.2; omega⟩
  · exact lv_i2l C.1 C.2.1 hd (am_i2l ha) K
theorem la_dup {ls : Array Slot} {p : Program} {l : Launch} {e : Env} {R : Room} {s : State} {m : MethodId} {args : Array Value} {below : List Frame} {meth : Method} {c : Code} {Q : State → Prop} {D : va_G} {B0 : Nat} {ka : Nat → Nat} {vF : Value} {md : Bool} {y n0 c0 s0 : Nat} {ad0 : Nat → Nat} {nf : Nat} {G : am_S → Prop} (hG : G = la_Go ls p l e R s m args below meth c Q D B0 ka vF md y n0 c0 s0 ad0 nf) (C : am_Cx p s m args c y B0 ka vF) {k : am_S → Option am_R} {r : am_R} (hk : ∀ S, k S = some r → G S) {pc nx : Nat} {L st : List am_V} {σ : am_M} {n : Nat} (hF : vF.category = 1) (hd : decode (am_by y) pc = .ok (.dup, 1)) (hn : nx = pc + 1) (h : (am_v1 st fun t z st => bif Nat.beq t 1 then none else k (nx, L, (t, z) :: (t, z) :: st, σ, n)) = some r) : G (pc, L, st, σ, n) := by
  subst hn
  obtain ⟨t, z, st', rfl, h⟩ := am_v1_some h
  obtain ⟨hb, h⟩ := am_bif_none h
  refine la_rep hG C hk (us := [(t, z)]) (vs := [(t, z), (t, z)]) (rest := st') rfl (fun H locs cells slots ad cA tys P => ⟨fun v hv => ?_, fun K => ?_⟩) h
  · have hv' : v = (t, z) := by simpa using hv
    subst hv'; exact P.2.2.2.2.2.1 _ (by simp)
  · exact lv_dup C.1 C.2.1 hd (by rw [am_cv_cat hF]; show (bif Nat.beq t 1 then 2 else 1) = 1; rw [hb]; rfl) K
theorem la_goto {ls : Array Slot} {p : Program} {l : Launch} {e : Env} {R : Room} {s : State} {m : MethodId} {args : Array Value} {below : List Frame} {meth : Method} {c : Code} {Q : State → Prop} {D : va_G} {B0 : Nat} {ka : Nat → Nat} {vF : Value} {md : Bool} {y n0 c0 s0 : Nat} {ad0 : Nat → Nat} {nf : Nat} {G : am_S → Prop} (hG : G = la_Go ls p l e R s m args below meth c Q D B0 ka vF md y n0 c0 s0 ad0 nf) (C : am_Cx p s m args c y B0 ka vF) {k : am_S → Option am_R} {r : am_R} (hk : ∀ S, k S = some r → G S) {pc nx : Nat} {L st : List am_V} {σ : am_M} {n : Nat} {o : Int} {tg : Nat} (hd : decode (am_by y) pc = .ok (.goto o, 3)) (ht : (pc : Int) + o = (tg : Int)) (h : k (tg, L, st, σ, n) = some r) : G (pc, L, st, σ, n) :=
  la_rep hG C hk (us := []) (vs := []) (rest := st) rfl (fun H locs cells slots ad cA tys P => ⟨fun v hv => absurd hv List.not_mem_nil, fun K => lv_goto C.1 C.2.1 hd ht K⟩) h
theorem la_br {ls : Array Slot} {p : Program} {l : Launch} {e : Env} {R : Room} {s : State} {m : MethodId} {args : Array Value} {below : List Frame} {meth : Method} {c : Code} {Q : State → Prop} {D : va_G} {B0 : Nat} {ka : Nat → Nat} {vF : Value} {md : Bool} {y n0 c0 s0 : Nat} {ad0 : Nat → Nat} {nf : Nat} {G : am_S → Prop} (hG : G = la_Go ls p l e R s m args below meth c Q D B0 ka vF md y n0 c0 s0 ad0 nf) (C : am_Cx p s m args c y B0 ka vF) {k : am_S → Option am_R} {r : am_R} (hk : ∀ S, k S = some r → G S) {pc nx : Nat} {L st : List am_V} {σ : am_M} {n : Nat} {tg : Nat} {cond : Prop} {us rest : List am_V} (hst : st = us ++ rest) (hrow : ∀ (H : Heap) (locs : List Loc) (cells slots : Nat) (ad cA : Nat → Nat) (tys : List (ClassId × FieldType)), am_Pt s D B0 ka vF md y n0 c0 s0 ad0 ls L st σ n H locs cells slots ad cA tys → (cond → W p l e R s m args below meth c H locs cells slots Q (F0 m tg ls (rest.map (am_cv ka vF ad)))) → (¬ cond → W p l e R s m args below meth c H locs cells slots Q (F0 m nx ls (rest.map (am_cv ka vF ad)))) → W p l e R s m args below meth c H locs cells slots Q (F0 m pc ls (us.map (am_cv ka vF ad) ++ rest.map (am_cv ka vF ad)))) (h : (cond ∧ k (tg, L, rest, σ, n) = some r) ∨ (¬ cond ∧ k (nx, L, rest, σ, n) = some r)) : G (pc, L, st, σ, n) := by
  subst hG
  have nn : n ≤ nf := by
    rcases h with ⟨-, h⟩ | ⟨-, h⟩
    · exact (hk _ h).1
    · exact (hk _ h).1
  refine ⟨nn, fun H locs cells slots ad cA tys P => ?_⟩
  have P' : am_Pt s D B0 ka vF md y n0 c0 s0 ad0 ls L rest σ n H locs cells slots ad cA tys := by
    obtain ⟨q1, q2, q3, q4, q5, q6, q7⟩ := P
    exact ⟨q1, q2, q3, q4, q5, fun v hv => q6 v (by rw [hst]; exact List.mem_append_right _ hv), q7⟩
  have K := hrow H locs cells slots ad cA tys P
  dsimp only
  rw [hst, List.map_append]
  rcases h with ⟨hc, h⟩ | ⟨hc, h⟩
  · exact K (fun _ => (hk _ h).2 H locs cells slots ad cA tys P') (fun q => absurd hc q)
  · exact K (fun q => absurd q hc) (fun _ => (hk _ h).2 H locs cells slots ad cA tys P')
theorem la_ifCond_eq {ls : Array Slot} {p : Program} {l : Launch} {e : Env} {R : Room} {s : State} {m : MethodId} {args : Array Value} {below : List Frame} {meth : Method} {c : Code} {Q : State → Prop} {D : va_G} {B0 : Nat} {ka : Nat → Nat} {vF : Value} {md : Bool} {y n0 c0 s0 : Nat} {ad0 : Nat → Nat} {nf : Nat} {G : am_S → Prop} (hG : G = la_Go ls p l e R s m args below meth c Q D B0 ka vF md y n0 c0 s0 ad0 nf) (C : am_Cx p s m args c y B0 ka vF) {k : am_S → Option am_R} {r : am_R} (hk : ∀ S, k S = some r → G S) {pc nx : Nat} {L st : List am_V} {σ : am_M} {n : Nat} {o : Int} {tg : Nat} (hd : decode (am_by y) pc = .ok (.ifCond .eq o, 3)) (hn : nx = pc + 3) (ht : (pc : Int) + o = (tg : Int)) (h : (am_i1 st fun a st => am_cond .eq a 0 (k (tg, L, st, σ, n)) (k (nx, L, st, σ, n))) = some r) : G (pc, L, st, σ, n) := by
  subst hn
  obtain ⟨a, st', rfl, h⟩ := am_i1_some h
  have h' : (a = 0 ∧ k (tg, L, st', σ, n) = some r) ∨ (¬ (a = 0) ∧ k (pc + 3, L, st', σ, n) = some r) := am_ite_some h
  refine la_br hG C hk (us := [(0, a)]) (rest := st') rfl (fun H locs cells slots ad cA tys P kt kf => ?_) h'
  have ha := am_ok_i (P.2.2.2.2.2.1 (0, a) (by simp))
  have hb0 : am_r32 0 := ⟨by decide, by decide⟩
  exact lv_if_eq C.1 C.2.1 hd ht (fun q => kt ((am_i_inj ha hb0).mp q)) (fun q => kf (fun z => q ((am_i_inj ha hb0).mpr z)))
theorem la_if_icmp_eq {ls : Array Slot} {p : Program} {l : Launch} {e : Env} {R : Room} {s : State} {m : MethodId} {args : Array Value} {below : List Frame} {meth : Method} {c : Code} {Q : State → Prop} {D : va_G} {B0 : Nat} {ka : Nat → Nat} {vF : Value} {md : Bool} {y n0 c0 s0 : Nat} {ad0 : Nat → Nat} {nf : Nat} {G : am_S → Prop} (hG : G = la_Go ls p l e R s m args below meth c Q D B0 ka vF md y n0 c0 s0 ad0 nf) (C : am_Cx p s m args c y B0 ka vF) {k : am_S → Option am_R} {r : am_R} (hk : ∀ S, k S = some r → G S) {pc nx : Nat} {L st : List am_V} {σ : am_M} {n : Nat} {o : Int} {tg : Nat} (hd : decode (am_by y) pc = .ok (.if_icmp .eq o, 3)) (hn : nx = pc + 3) (ht : (pc : Int) + o = (tg : Int)) (h : (am_ii st fun a b st => am_cond .eq a b (k (tg, L, st, σ, n)) (k (nx, L, st, σ, n))) = some r) : G (pc, L, st, σ, n) := by
  subst hn
  obtain ⟨a, b, st', rfl, h⟩ := am_ii_some h
  have h' : (a = b ∧ k (tg, L, st', σ, n) = some r) ∨ (¬ (a = b) ∧ k (pc + 3, L, st', σ, n) = some r) := am_ite_some h
  refine la_br hG C hk (us := [(0, b), (0, a)]) (rest := st') rfl (fun H locs cells slots ad cA tys P kt kf => ?_) h'
  have ha := am_ok_i (P.2.2.2.2.2.1 (0, a) (by simp))
  have hb := am_ok_i (P.2.2.2.2.2.1 (0, b) (by simp))
  exact lv_icmp_eq C.1 C.2.1 hd ht (fun q => kt ((am_i_inj ha hb).mp q)) (fun q => kf (fun z => q ((am_i_inj ha hb).mpr z)))
theorem la_if_icmp_gt {ls : Array Slot} {p : Program} {l : Launch} {e : Env} {R : Room} {s : State} {m : MethodId} {args : Array Value} {below : List Frame} {meth : Method} {c : Code} {Q : State → Prop} {D : va_G} {B0 : Nat} {ka : Nat → Nat} {vF : Value} {md : Bool} {y n0 c0 s0 : Nat} {ad0 : Nat → Nat} {nf : Nat} {G : am_S → Prop} (hG : G = la_Go ls p l e R s m args below meth c Q D B0 ka vF md y n0 c0 s0 ad0 nf) (C : am_Cx p s m args c y B0 ka vF) {k : am_S → Option am_R} {r : am_R} (hk : ∀ S, k S = some r → G S) {pc nx : Nat} {L st : List am_V} {σ : am_M} {n : Nat} {o : Int} {tg : Nat} (hd : decode (am_by y) pc = .ok (.if_icmp .gt o, 3)) (hn : nx = pc + 3) (ht : (pc : Int) + o = (tg : Int)) (h : (am_ii st fun a b st => am_cond .gt a b (k (tg, L, st, σ, n)) (k (nx, L, st, σ, n))) = some r) : G (pc, L, st, σ, n) := by
  subst hn
  obtain ⟨a, b, st', rfl, h⟩ := am_ii_some h
  have h' : (b < a ∧ k (tg, L, st', σ, n) = some r) ∨ (¬ (b < a) ∧ k (pc + 3, L, st', σ, n) = some r) := am_ite_some h
  refine la_br hG C hk (us := [(0, b), (0, a)]) (rest := st') rfl (fun H locs cells slots ad cA tys P kt kf => ?_) h'
  have ha := am_ok_i (P.2.2.2.2.2.1 (0, a) (by simp))
  have hb := am_ok_i (P.2.2.2.2.2.1 (0, b) (by simp))
  exact lv_icmp_gt C.1 C.2.1 hd ht (fun q => kt ((am_i_lt hb ha).mp q)) (fun q => kf (fun z => q ((am_i_lt hb ha).mpr z)))
theorem la_tableswitch {ls : Array Slot} {p : Program} {l : Launch} {e : Env} {R : Room} {s : State} {m : MethodId} {args : Array Value} {below : List Frame} {meth : Method} {c : Code} {Q : State → Prop} {D : va_G} {B0 : Nat} {ka : Nat → Nat} {vF : Value} {md : Bool} {y n0 c0 s0 : Nat} {ad0 : Nat → Nat} {nf : Nat} {G : am_S → Prop} (hG : G = la_Go ls p l e R s m args below meth c Q D B0 ka vF md y n0 c0 s0 ad0 nf) (C : am_Cx p s m args c y B0 ka vF) {k : am_S → Option am_R} {r : am_R} (hk : ∀ S, k S = some r → G S) {pc nx : Nat} {L st : List am_V} {σ : am_M} {n : Nat} {o lo hi : Int} {os : Array Int} {len : Nat} (hd : decode (am_by y) pc = .ok (.tableswitch o lo hi os, len)) (hl : lo + (os.size : Int) = hi + 1) (h : (am_i1 st fun a st => am_sw a (am_jmp pc o (fun t => k (t, L, st, σ, n))) (am_tsw pc (fun t => k (t, L, st, σ, n)) lo os.toList)) = some r) : G (pc, L, st, σ, n) := by
  obtain ⟨a, st', rfl, h⟩ := am_i1_some h
  rcases am_tsw_some h with ⟨j, o', h1, h2, h3⟩ | ⟨h1, h2⟩
  · obtain ⟨ht, h4⟩ := am_jmp_some h3
    refine la_rep hG C hk (us := [(0, a)]) (vs := []) (rest := st') rfl (fun H locs cells slots ad cA tys P => ⟨fun v hv => absurd hv List.not_mem_nil, fun K => ?_⟩) h4
    have ha := am_ok_i (P.2.2.2.2.2.1 (0, a) (by simp))
    have hj : j < os.size := by
      have := (List.getElem?_eq_some_iff.mp h1).1
      rwa [Array.length_toList] at this
    refine lv_tableIn C.1 C.2.1 hd (x := Int32.ofInt a) (off := o') ?_ ?_ ?_ ht K
    · rw [am_i_to ha]; omega
    · rw [am_i_to ha]; omega
    · rw [am_i_to ha, show (a - lo).toNat = j by omega, ← Array.getElem?_toList]
      exact h1
  · obtain ⟨ht, h4⟩ := am_jmp_some h2
    refine la_rep hG C hk (us := [(0, a)]) (vs := []) (rest := st') rfl (fun H locs cells slots ad cA tys P => ⟨fun v hv => absurd hv List.not_mem_nil, fun K => ?_⟩) h4
    have ha := am_ok_i (P.2.2.2.2.2.1 (0, a) (by simp))
    rw [Array.length_toList] at h1
    refine lv_tableOut C.1 C.2.1 hd (x := Int32.ofInt a) ?_ ht K
    rw [am_i_to ha]
    omega
theorem la_ldc2 {ls : Array Slot} {p : Program} {l : Launch} {e : Env} {R : Room} {s : State} {m : MethodId} {args : Array Value} {below : List Frame} {meth : Method} {c : Code} {Q : State → Prop} {D : va_G} {B0 : Nat} {ka : Nat → Nat} {vF : Value} {md : Bool} {y n0 c0 s0 : Nat} {ad0 : Nat → Nat} {nf : Nat} {G : am_S → Prop} (hG : G = la_Go ls p l e R s m args below meth c Q D B0 ka vF md y n0 c0 s0 ad0 nf) (C : am_Cx p s m args c y B0 ka vF) {k : am_S → Option am_R} {r : am_R} (hk : ∀ S, k S = some r → G S) {pc nx : Nat} {L st : List am_V} {σ : am_M} {n : Nat} {j : Nat} {x : Nat × Nat × Nat × Nat} (hd : decode (am_by y) pc = .ok (.ldc2_w j, 3)) (hn : nx = pc + 3) (hx : ((am_klk (am_own y)).any (fun f => Nat.beq f.1 j && Nat.beq f.2.1 x.1 && Nat.beq f.2.2.1 x.2.1 && Nat.beq f.2.2.2.1 x.2.2.1) && Nat.beq x.1 1 && Nat.blt x.2.1 9223372036854775808) = true) (h : (am_lit x fun t z => k (nx, L, (t, z) :: st, σ, n)) = some r) : G (pc, L, st, σ, n) := by
  subst hn
  rw [am_lit_eq] at h
  simp only [Bool.and_eq_true] at hx
  obtain ⟨⟨hx1, hx2⟩, hx3⟩ := hx
  have hy := am_y18 C.2.2.2.2.2.2.2
  have e1 := am_beq_t hx2
  have hw := am_kl_word hy hx1 (by rw [e1]; rfl)
  have hr := am_ltv_r (am_blt_lt hx3)
  rw [e1] at h hw
  rw [am_kwd_l, am_ltv_x] at hw
  refine la_rep hG C hk (us := []) (vs := [(1, am_ltv x)]) (rest := st) rfl (fun H locs cells slots ad cA tys P => ⟨fun v hv => ?_, fun K => ?_⟩) h
  · rw [List.mem_singleton] at hv; subst hv; exact am_ok_1 ⟨by omega, by omega⟩
  · exact lv_ldc2 C.1 C.2.1 C.2.2.2.1 (C.2.2.2.2.1 _ hw) hd K
theorem la_alloc {ls : Array Slot} {p : Program} {l : Launch} {e : Env} {R : Room} {s : State} {m : MethodId} {args : Array Value} {below : List Frame} {meth : Method} {c : Code} {Q : State → Prop} {D : va_G} {B0 : Nat} {ka : Nat → Nat} {vF : Value} {md : Bool} {y n0 c0 s0 : Nat} {ad0 : Nat → Nat} {nf : Nat} {G : am_S → Prop} (hG : G = la_Go ls p l e R s m args below meth c Q D B0 ka vF md y n0 c0 s0 ad0 nf) (C : am_Cx p s m args c y B0 ka vF) {k : am_S → Option am_R} {r : am_R} (hk : ∀ S, k S = some r → G S) {pc nx : Nat} {L st : List am_V} {σ : am_M} {n : Nat} {d : Nat} (hR : am_Rm R d c0 s0 n0 nf) {tg : Nat} (htg : am_tag n = tg) (hti : am_isr tg = true) {us rest : List am_V} (hst : st = us ++ rest) (hF : md = true → ∀ j, am_isfn n j = false)
    (hrow : ∀ (H : Heap) (locs : List Loc) (cells slots : Nat) (ad cA : Nat → Nat) (tys : List (ClassId × FieldType)), am_Pt s D B0 ka vF md y n0 c0 s0 ad0 ls L st σ n H locs cells slots ad cA tys → cells + 1 ≤ R.cells → slots + am_len n ≤ R.slots →
      (∀ (q cN : Nat) (tys' : List (ClassId × FieldType)) (H1 : Heap), va_K D am_cl tys' s → (∀ i : Nat, ∀ e, tys[i]? = some e → tys'[i]? = some e) → (am_tag n < 100 → ∃ t0 : Nat, tys'[t0]? = some (cN, am_aty (am_tag n))) → va_P D am_cl (am_ws ka vF ad cA σ n ++ [(q, am_en ka vF (am_ad ad n q) (am_ad cA n cN) (am_new σ n) n)]) H1 → va_D (fun q => B0 ≤ q) (am_ws ka vF ad cA σ n ++ [(q, am_en ka vF (am_ad ad n q) (am_ad cA n cN) (am_new σ n) n)]) → va_S (fun q => B0 ≤ q) s.heap H1 locs →
        W p l e R s m args below meth c H1 locs (cells + 1) (slots + am_len n) Q (F0 m nx ls (.ref q :: rest.map (am_cv ka vF ad)))) → W p l e R s m args below meth c H locs cells slots Q (F0 m pc ls (us.map (am_cv ka vF ad) ++ rest.map (am_cv ka vF ad))))
    (h : k (nx, L, (tg, (n : Int)) :: rest, am_new σ n, n + 1) = some r) : G (pc, L, st, σ, n) := by
  have hn : n < 144 := am_tag_lt (by rw [htg]; intro q; rw [q] at hti; exact absurd hti (by decide))
  subst hG
  have h1 := hk _ h
  have nn : n + 1 ≤ nf := h1.1
  refine ⟨by show n ≤ nf; omega, fun H locs cells slots ad cA tys P => ?_⟩
  have P : am_Pt s D B0 ka vF md y n0 c0 s0 ad0 ls L st σ n H locs cells slots ad cA tys := P
  have hrow1 := hrow H locs cells slots ad cA tys P
  obtain ⟨q1, ⟨w1, w2, w3, w4, w5, w6, w7⟩, q3, q4, q5, q6, g1, g2, g3, g4⟩ := P
  have z1 := am_sz_mono nn
  have z2 := am_sz_mono g1
  have z3 : am_sz (n + 1) = am_sz n + am_len n := rfl
  obtain ⟨r1, r2, r3, r4⟩ := hR
  dsimp only
  rw [hst, List.map_append]
  refine hrow1 (by omega) (by omega) (fun q cN tys' H1 hK' hty hT hP' hD' hS' => ?_)
  have hext : ∀ i, i < n → am_ad ad n q i = ad i := fun i hi => am_ad_lt hi
  have hpush := am_ws_push (q := q) (E := am_en ka vF (am_ad ad n q) (am_ad cA n cN) (am_new σ n) n) w5 w7 hext (fun i hi => am_ad_lt (ad := cA) (q := cN) hi) (fun i j hi => am_new_lt hi) am_ad_n rfl
  rw [hpush] at hP' hD'
  have hstack : rest.map (am_cv ka vF ad) = rest.map (am_cv ka vF (am_ad ad n q)) := List.map_congr_left fun v hv => (am_cv_ext hext (q6 v (by rw [hst]; exact List.mem_append_right _ hv))).symm
  have htop : Value.ref q = am_cv ka vF (am_ad ad n q) (tg, (n : Int)) := by
    rw [am_cv_r hti (by omega) (by omega), Int.toNat_natCast, am_ad_n]
  rw [hstack, htop]
  have h2 := h1.2 H1 locs (cells + 1) (slots + am_len n) (am_ad ad n q) (am_ad cA n cN) tys'
  refine h2 ⟨hS', ⟨hP', hD', hK', fun i hi ht => ?_, am_new_okM hn w5, fun hm i j hi hj => ?_, by show n + 1 ≤ 144; omega⟩, am_has_sub q3 (fun v hv => ?_), q4, fun i v hv h9 => am_ok_up (Nat.le_succ n) (q5 i v hv h9), fun v hv => ?_, Nat.le_succ_of_le g1, fun i hi => ?_, by show cells + 1 = c0 + (n + 1 - n0); omega, by show slots + am_len n = s0 + (am_sz (n + 1) - am_sz n0); omega⟩
  · by_cases e : i = n
    · subst e
      rw [am_ad_n]
      exact hT ht
    · obtain ⟨t0, ht0⟩ := w4 i (by dsimp only at hi; omega) ht
      rw [am_ad_lt (by dsimp only at hi; omega)]
      exact ⟨t0, hty t0 _ ht0⟩
  · by_cases e : i = n
    · subst e; rw [hF hm j] at hj; cases hj
    · dsimp only at hi
      show am_new σ n i j = am_fin i j
      rw [am_new_lt (by omega)]
      exact w6 hm i j (by omega) hj
  · obtain ⟨i, w, hw, h9, e⟩ := (am_lv_mem L 0 v).mp hv
    refine (am_lv_mem L 0 v).mpr ⟨i, w, hw, h9, ?_⟩
    rw [e, am_cv_ext hext (q5 i w hw h9)]
  · rcases List.mem_cons.mp hv with rfl | hv
    · refine am_ok_ref hti (Or.inr ⟨by omega, ?_, by rw [Int.toNat_natCast]; exact htg⟩)
      show (n : Int) < ((n + 1 : Nat) : Int)
      omega
    · exact am_ok_up (Nat.le_succ n) (q6 v (by rw [hst]; exact List.mem_append_right _ hv))
  · rw [am_ad_lt (by omega)]
    exact g2 i hi
theorem la_new {ls : Array Slot} {p : Program} {l : Launch} {e : Env} {R : Room} {s : State} {m : MethodId} {args : Array Value} {below : List Frame} {meth : Method} {c : Code} {Q : State → Prop} {D : va_G} {B0 : Nat} {ka : Nat → Nat} {vF : Value} {md : Bool} {y n0 c0 s0 : Nat} {ad0 : Nat → Nat} {nf : Nat} {G : am_S → Prop} (hG : G = la_Go ls p l e R s m args below meth c Q D B0 ka vF md y n0 c0 s0 ad0 nf) (C : am_Cx p s m args c y B0 ka vF) {k : am_S → Option am_R} {r : am_R} (hk : ∀ S, k S = some r → G S) {pc nx : Nat} {L st : List am_V} {σ : am_M} {n : Nat} {d j : Nat} {x : Nat × Nat × Nat × Nat} (hR : am_Rm R d c0 s0 n0 nf) (hd : decode (am_by y) pc = .ok (.new j, 3)) (hn : nx = pc + 3) (hx : ((am_nlk (am_own y)).any (fun f => Nat.beq f.1 j && Nat.beq f.2.1 x.1) && Nat.blt x.1 11) = true) (h : (bif !md && Nat.beq (am_tag n) (100 + x.1) then am_m (am_new σ n) fun σ => k (nx, L, (100 + x.1, (n : Int)) :: st, σ, n + 1) else none) = some r) : G (pc, L, st, σ, n) := by
  subst hn
  obtain ⟨hb, h1⟩ := am_bif_some h
  rw [Bool.and_eq_true] at hb hx
  have htg := am_beq_t hb.2
  have c1 : x.1 < 11 := am_blt_lt hx.2
  have hmd : md = false := by simpa using hb.1
  have hn : n < 144 := am_tag_lt (by rw [htg]; omega)
  have hlen : am_len n = (am_ft x.1).length := by
    have := (am_len_ft n hn (by omega)).1
    rw [htg, Nat.add_sub_cancel_left] at this
    exact this
  refine la_alloc hG C hk hR htg (am_isr_o c1) (us := []) (rest := st) rfl (fun hm => by rw [hmd] at hm; cases hm) (fun H locs cells slots ad cA tys P hc hs K => ?_) h1
  obtain ⟨q1, ⟨w1, w2, w3, w4, w5, w6, w7⟩, q3⟩ := P
  refine va_new (C := am_cn x.1) (T := am_T x.1) (N := (am_ft x.1).length) (fs := (List.range (am_len n)).map fun j => am_cv ka vF ad (am_sl n j, am_df n j)) C.1 C.2.1 C.2.2.2.2.1 (am_uws x.1 c1) (am_ty x.1) (am_ty_ok x.1 c1) C.2.2.2.1 (C.2.2.2.2.1 _ (am_nl_word (am_y18 C.2.2.2.2.2.2.2) hx.1)) (C.2.2.2.2.1 _ (am_is_word c1)) (C.2.2.2.2.1 _ (am_ini_word (by omega))) w3 w1 w2 q1 (fun q hq => Nat.le_trans C.2.2.2.2.2.2.1 hq) (am_cl_at x.1 c1) (fun j hj => ?_) hc (by rw [← hlen]; exact hs) hd (fun q H1 o2 o3 o4 => ?_)
  · rw [am_dfv (ka := ka) (vF := vF) (ad := ad) c1 hj]
    unfold vp_V
    rw [List.getD_eq_getElem?_getD, List.getElem?_map, List.getElem?_range (by rw [hlen]; exact hj)]
    show _ = am_cv ka vF ad (am_sl n j, am_df n j)
    rw [am_sl_o htg, am_df_o htg]
  · have eE : am_en ka vF (am_ad ad n q) (am_ad cA n 0) (am_new σ n) n = .inr (x.1, (List.range (am_len n)).map fun j => am_cv ka vF ad (am_sl n j, am_df n j)) := by
      rw [am_en_o htg]
      refine congrArg (fun f => (Sum.inr (x.1, f) : va_E)) (List.map_congr_left fun j hj => ?_)
      rw [am_new_n]
      refine am_cv_ext (n := n) (fun i hi => am_ad_lt hi) ?_
      have hj' := List.mem_range.mp hj
      have := am_ft_len x.1 c1
      rcases am_df_ok n hn j (by omega) with ⟨a, b⟩ | ⟨a, b⟩ | ⟨a, b⟩
      · rw [a, b]; exact am_ok_0 ⟨by decide, by decide⟩
      · rw [a, b]; exact am_ok_1 ⟨by decide, by decide⟩
      · rw [b]; exact am_ok_ref a (Or.inl rfl)
    have hK := K q 0 tys H1 w3 (fun i e he => he) (fun h => absurd h (by omega)) (by rw [eE]; exact o2) (by rw [eE]; exact o3) o4
    rw [hlen] at hK
    exact hK
theorem la_after {ls : Array Slot} {p : Program} {l : Launch} {e : Env} {R : Room} {s : State} {m : MethodId} {args : Array Value} {below : List Frame} {meth : Method} {c : Code} {Q : State → Prop} {D : va_G} {B0 : Nat} {ka : Nat → Nat} {vF : Value} {md : Bool} {y n0 c0 s0 : Nat} {ad0 : Nat → Nat} {nf : Nat} {pc : Nat} {L us rest : List am_V} {σ : am_M} {n : Nat} {q : am_R} {rt : Nat} {a : Array Value} {st0 : List Value}
    (hnq : n ≤ q.2.2) (hgo : la_Go ls p l e R s m args below meth c Q D B0 ka vF md y n0 c0 s0 ad0 nf (pc + 3, L, am_bk rt q.1 rest, q.2.1, q.2.2))
    {H : Heap} {locs : List Loc} {cells slots : Nat} {ad cA : Nat → Nat} {tys : List (ClassId × FieldType)} (P : am_Pt s D B0 ka vF md y n0 c0 s0 ad0 ls L (us ++ rest) σ n H locs cells slots ad cA tys)
    (hr : va_Run p l e R s m args below meth c H locs cells slots (q.2.2 - n) (am_sz q.2.2 - am_sz n) (F0 m pc ls st0) (rest.map (am_cv ka vF ad)) (am_Qc D B0 ka vF md rt n ad q.1 q.2.1 q.2.2 a) (fun q => B0 ≤ q)) :
    W p l e R s m args below meth c H locs cells slots Q (F0 m pc ls st0) := by
  refine am_callX hr (fun v st₀ t Lc h0 hQ hvm hL => ?_)
  obtain ⟨⟨ad', cA', tys', hv, hext, ⟨w1, w2, w3, w4⟩, hok⟩, hF1, hF2⟩ := hQ
  obtain ⟨q1, hW, q3, q4, q5, q6, g1, g2, g3, g4⟩ := P
  have hv' : v = am_rv ka vF ad' rt q.1 := by injection hv
  subst hv'
  rw [h0] at hF1 hF2
  have z1 := am_sz_mono hnq
  have z2 := am_sz_mono g1
  have hrest : rest.map (am_cv ka vF ad) = rest.map (am_cv ka vF ad') := List.map_congr_left fun v hv => (am_cv_ext hext (q6 v (List.mem_append_right _ hv))).symm
  have hstk : (am_rv ka vF ad' rt q.1).toList ++ rest.map (am_cv ka vF ad) = (am_bk rt q.1 rest).map (am_cv ka vF ad') := by
    rw [hrest]
    unfold am_rv am_bk
    cases h9 : Nat.beq rt 9 <;> rfl
  rw [hstk]
  refine hgo.2 t.heap (locs ++ Lc) _ _ ad' cA' tys' ⟨⟨Nat.le_trans q1.1 hF1, fun i h1 h2 => (hF2 i (Nat.lt_of_lt_of_le h1 q1.1) h2).trans (q1.2.1 i h1 h2), fun x hx => ?_⟩, ⟨w1, w2, va_K.moved hvm.symm w3, w4⟩, am_has_sub q3 (fun v hv => ?_), q4, fun i v hv h9 => am_ok_up hnq (q5 i v hv h9), fun v hv => ?_, Nat.le_trans g1 hnq, fun i hi => (hext i (by omega)).trans (g2 i hi), ?_, ?_⟩
  · rcases List.mem_append.mp hx with hx | hx
    · exact q1.2.2 x hx
    · exact hL x hx
  · obtain ⟨i, w, hw, h9, e⟩ := (am_lv_mem L 0 v).mp hv
    refine (am_lv_mem L 0 v).mpr ⟨i, w, hw, h9, ?_⟩
    rw [e, am_cv_ext hext (q5 i w hw h9)]
  · have hv2 : v ∈ am_bk rt q.1 rest := hv
    unfold am_bk at hv2
    cases h9 : Nat.beq rt 9 with
    | true =>
      rw [h9] at hv2
      exact am_ok_up hnq (q6 v (List.mem_append_right _ hv2))
    | false =>
      rw [h9] at hv2
      rcases List.mem_cons.mp hv2 with e | hv3
      · rw [e]; exact hok (fun e => by rw [e] at h9; cases h9)
      · exact am_ok_up hnq (q6 v (List.mem_append_right _ hv3))
  · show cells + (q.2.2 - n) = c0 + (q.2.2 - n0); omega
  · show slots + (am_sz q.2.2 - am_sz n) = s0 + (am_sz q.2.2 - am_sz n0); omega
theorem la_invokevirtual {ls : Array Slot} {p : Program} {l : Launch} {e : Env} {R : Room} {s : State} {m : MethodId} {args : Array Value} {below : List Frame} {meth : Method} {c : Code} {Q : State → Prop} {D : va_G} {B0 : Nat} {ka : Nat → Nat} {vF : Value} {md : Bool} {y n0 c0 s0 : Nat} {ad0 : Nat → Nat} {nf : Nat} {G : am_S → Prop} (hG : G = la_Go ls p l e R s m args below meth c Q D B0 ka vF md y n0 c0 s0 ad0 nf) (C : am_Cx p s m args c y B0 ka vF) {k : am_S → Option am_R} {r : am_R} (hk : ∀ S, k S = some r → G S) {pc nx : Nat} {L st : List am_V} {σ : am_M} {n : Nat} {d j : Nat} {x : Nat × Nat × Nat × Nat} {call : am_C} (hcall : ∀ (y' : Nat), y' < 277 → ∀ (as : List am_V) (σ : am_M) (n : Nat) (q : am_R), call y' as σ n = some q → ∃ d', d = d' + 1 ∧ am_MO l D B0 ka vF md d' y' as σ n q) (hR : am_Rm R d c0 s0 n0 nf) (hd : decode (am_by y) pc = .ok (.invokevirtual j, 3)) (hn : nx = pc + 3) (hx : (Nat.beq x.2.1 99 || (am_okc (am_own y) j x.1 0 && Nat.blt x.1 277 && Nat.beq (am_npar x.1 + 1) x.2.1 && Nat.beq (am_rkt (am_rk x.1)) x.2.2.2 && ((Nat.blt (am_own x.1) 11 && Nat.beq x.2.2.1 (100 + am_own x.1)) || (Nat.beq x.2.2.1 16 && Nat.beq (am_own x.1) 14)))) = true) (h99 : x.2.1 ≠ 99) (h : am_do call x.1 x.2.1 x.2.2.2 (fun t => Nat.beq t x.2.2.1) st (fun st σ n => k (nx, L, st, σ, n)) σ n = some r) : G (pc, L, st, σ, n) := by
  subst hn
  rw [am_beq_n h99, Bool.false_or] at hx
  simp only [Bool.and_eq_true] at hx
  obtain ⟨⟨⟨⟨hx1, hx2⟩, hx3⟩, hx4⟩, hx5⟩ := hx
  have hy := am_blt_lt hx2
  obtain ⟨t, z, as, rest, q, est, hlen, ht, hcat, hz, hq, hk1⟩ := am_do_some h
  obtain ⟨d', hdd, hnq, hM⟩ := hcall _ hy _ _ _ _ hq
  have hgo := hk _ hk1
  subst hG
  have hqf : q.2.2 ≤ nf := hgo.1
  refine ⟨Nat.le_trans hnq hqf, fun H locs cells slots ad cA tys P => ?_⟩
  obtain ⟨f, hf, f1, f2, f3⟩ := am_cl_row (am_y18 C.2.2.2.2.2.2.2) hx1
  have hws := am_cl_word (am_y18 C.2.2.2.2.2.2.2) hf
  unfold am_cws at hws
  rw [f1, f2, f3] at hws
  have u1 := hws (f.2.2.2.1, Cond.methodLink (am_cn (am_own y)) j (am_nm x.1)) List.mem_cons_self
  have u2 := hws (f.2.2.2.2.1, Cond.instanceMethod (am_nm x.1)) (List.mem_cons_of_mem _ List.mem_cons_self)
  have u3 := hws (f.2.2.2.2.2, Cond.selects (am_nm x.1).cls (am_nm x.1) (am_nm x.1)) (List.mem_cons_of_mem _ (List.mem_cons_of_mem _ List.mem_cons_self))
  have hcls := am_y_cls x.1 (by omega)
  have hown := am_y_own x.1 (by omega)
  have hpl := am_cn_plain (am_own x.1) hown.1 hown.2.1
  rw [hcls] at u3
  have P' : am_Pt s D B0 ka vF md y n0 c0 s0 ad0 ls L ((as.reverse ++ [(t, z)]) ++ rest) σ n H locs cells slots ad cA tys := by
    have : (as.reverse ++ [(t, z)]) ++ rest = st := by rw [est, List.append_assoc]; rfl
    rw [this]; exact P
  have P2 := P'
  obtain ⟨q1, hWd, q3, q4, q5, q6, g1, g2, g3, g4⟩ := P2
  have w3 := hWd.2.2.1
  have w1 := hWd.1
  have hroom := am_room (y := x.1) hR hdd hnq hqf g1 (by omega) g3 g4
  have ht' := am_beq_t ht
  have hrecv : ∃ b, am_cv ka vF ad (t, z) = .ref b ∧ ∃ cellB : Cell, H[b]? = some cellB ∧ cellB.vm.isStatics = false ∧ s.vm.findClass (am_cn (am_own x.1)) = some cellB.cls := by
    rw [Bool.or_eq_true, Bool.and_eq_true, Bool.and_eq_true] at hx5
    have hz6 := q6 (t, z) (by simp)
    rcases hx5 with ⟨o1, o2⟩ | ⟨o1, o2⟩
    · have c1 := am_blt_lt o1
      have et : t = 100 + am_own x.1 := ht'.trans (am_beq_t o2)
      subst et
      obtain ⟨a1, a2, a3⟩ := am_okc_lt (am_isr_o c1) hz6 hz
      exact ⟨ad z.toNat, am_cv_r (am_isr_o c1) hz (by have := hWd.2.2.2.2.2.2; omega), va_recv w3 w1 (am_cl_at _ c1) ((am_ws_at a1).trans (by rw [am_en_o a2]))⟩
    · have et : t = 16 := ht'.trans (am_beq_t o1)
      subst et
      have hz2 : 2000 ≤ z ∧ z < 2008 := by
        unfold am_ok at hz6
        dsimp only at hz6
        rcases hz6 with w | w | w | w | w | w | w
        · exact absurd w.1 (by decide)
        · exact absurd w.1 (by decide)
        · exact w.2
        · exact absurd w (by decide)
        · exact absurd w.1 (by decide)
        · exact absurd w.1 (by decide)
        · exact absurd w.1 (by decide)
      have := vk_recv (H := H) (locs := locs) C.2.2.2.2.2.1.2.2.2.2.1 (i := z.toNat - 2000) (by omega) q1
      rw [am_beq_t o2]
      refine ⟨ka (2000 + (z.toNat - 2000)), ?_, this⟩
      rw [am_cv_k (Or.inl rfl) (by omega)]; exact congrArg (fun i => Value.ref (ka i)) (by omega)
  obtain ⟨b, hb, hcell⟩ := hrecv
  have hst : (st.map (am_cv ka vF ad)) = (as.map (am_cv ka vF ad)).reverse ++ .ref b :: rest.map (am_cv ka vF ad) := by
    rw [est, List.map_append, List.map_cons, hb, List.map_reverse]
  have hMet := hM ad cA tys (fun v hv => q6 v (by
    rcases List.mem_cons.mp hv with e | hv
    · rw [e]; simp
    · simp [hv]))
  rw [am_beq_t hx4] at hMet
  refine la_after (us := as.reverse ++ [(t, z)]) (rest := rest) (rt := x.2.2.2) (a := (Value.ref b :: as.map (am_cv ka vF ad)).toArray) hnq hgo P' ?_
  have hav : (Value.ref b :: as.map (am_cv ka vF ad)).toArray = (((t, z) :: as).map (am_cv ka vF ad)).toArray := by rw [List.map_cons, hb]
  exact va_runV (As := as.map (am_cv ka vF ad)) (b := b) (C := am_cn (am_own x.1)) (own := am_cn (am_own y)) (index := j) (Ts := am_wa) (n := am_npar x.1) ⟨C.1, C.2.1, C.2.2.1, C.2.2.2.1, C.2.2.2.2.1⟩ hMet
    (cwV (ws' := am_wa) (bytes := am_by x.1) (maxL := am_ml x.1) (ret := am_rt x.1) (am_npar x.1) C.2.2.2.2.1 (am_good (fun w hw => by
      unfold wsV at hw
      rcases List.mem_append.mp hw with hw | hw
      · simp only [List.mem_cons, List.not_mem_nil, or_false] at hw
        rcases hw with e | e | e | e
        · rw [e]; exact u1
        · rw [e]; exact u2
        · rw [e]; exact u3
        · rw [e]; exact am_ini_word hown.1
      · exact am_wy_in hy w hw)) rfl rfl rfl ⟨hcls, by rw [hcls]; exact hpl.2.1, by rw [hcls]; exact hpl.2.2, am_y_par x.1 (by omega)⟩ hroom.1)
    ⟨am_Pc_blind, hcell, fun U hU hw => am_pre q1 C.2.2.2.2.2.2.1 C.2.2.2.2.2.1 hWd hU hw hav⟩ rfl (by rw [List.length_map]; have := am_beq_t hx3; omega) q3.1 hst (lv_room (by rw [am_cat_sum (am_hF C)]; exact hcat)) hd hroom.2
theorem la_init {ls : Array Slot} {p : Program} {l : Launch} {e : Env} {R : Room} {s : State} {m : MethodId} {args : Array Value} {below : List Frame} {meth : Method} {c : Code} {Q : State → Prop} {D : va_G} {B0 : Nat} {ka : Nat → Nat} {vF : Value} {md : Bool} {y n0 c0 s0 : Nat} {ad0 : Nat → Nat} {nf : Nat} {G : am_S → Prop} (hG : G = la_Go ls p l e R s m args below meth c Q D B0 ka vF md y n0 c0 s0 ad0 nf) (C : am_Cx p s m args c y B0 ka vF) {k : am_S → Option am_R} {r : am_R} (hk : ∀ S, k S = some r → G S) {pc nx : Nat} {L st : List am_V} {σ : am_M} {n : Nat} {d j : Nat} {x : Nat × Nat × Nat × Nat} {call : am_C} (hcall : ∀ (y' : Nat), y' < 277 → ∀ (as : List am_V) (σ : am_M) (n : Nat) (q : am_R), call y' as σ n = some q → ∃ d', d = d' + 1 ∧ am_MO l D B0 ka vF md d' y' as σ n q) (hR : am_Rm R d c0 s0 n0 nf) (hd : decode (am_by y) pc = .ok (.invokespecial j, 3)) (hn : nx = pc + 3) (hx : ((am_okc (am_own y) j x.1 2 || am_okc (am_own y) j x.1 4) && Nat.blt x.1 277 && Nat.beq (am_npar x.1 + 1) x.2.1 && Nat.beq (am_rk x.1) 9 && Nat.blt (am_own x.1) 11 && Nat.beq x.2.2.2 (100 + am_own x.1) && am_ini x.1) = true) (h : am_do call x.1 x.2.1 9 (fun t => Nat.beq t x.2.2.2) st (fun st σ n => k (nx, L, st, σ, n)) σ n = some r) : G (pc, L, st, σ, n) := by
  subst hn
  simp only [Bool.and_eq_true] at hx
  obtain ⟨⟨⟨⟨⟨⟨hx1, hx2⟩, hx3⟩, hx4⟩, hx5⟩, hx6⟩, hx7⟩ := hx
  have hy := am_blt_lt hx2
  obtain ⟨t, z, as, rest, q, est, hlen, ht, hcat, hz, hq, hk1⟩ := am_do_some h
  obtain ⟨d', hdd, hnq, hM⟩ := hcall _ hy _ _ _ _ hq
  have hgo := hk _ hk1
  subst hG
  have hqf : q.2.2 ≤ nf := hgo.1
  refine ⟨Nat.le_trans hnq hqf, fun H locs cells slots ad cA tys P => ?_⟩
  have hcls := am_y_cls x.1 (by omega)
  have hown := am_y_own x.1 (by omega)
  have hpl := am_cn_plain (am_own x.1) hown.1 hown.2.1
  have hnm := am_ini_ok x.1 (by omega) hx7
  have hrk := am_beq_t hx4
  have hrt : am_rt x.1 = none := by rw [am_rt_rk x.1 (by omega), hrk]; rfl
  have P' : am_Pt s D B0 ka vF md y n0 c0 s0 ad0 ls L ((as.reverse ++ [(t, z)]) ++ rest) σ n H locs cells slots ad cA tys := by
    have : (as.reverse ++ [(t, z)]) ++ rest = st := by rw [est, List.append_assoc]; rfl
    rw [this]; exact P
  have P2 := P'
  obtain ⟨q1, hWd, q3, q4, q5, q6, g1, g2, g3, g4⟩ := P2
  have hroom := am_room (y := x.1) hR hdd hnq hqf g1 (by omega) g3 g4
  have c1 := am_blt_lt hx5
  have et : t = 100 + am_own x.1 := (am_beq_t ht).trans (am_beq_t hx6)
  subst et
  obtain ⟨a1, a2, a3⟩ := am_okc_lt (am_isr_o c1) (q6 (100 + am_own x.1, z) (by simp)) hz
  have hb := am_cv_r (ka := ka) (vF := vF) (ad := ad) (am_isr_o c1) hz (by have := hWd.2.2.2.2.2.2; omega)
  have hst : (st.map (am_cv ka vF ad)) = (as.map (am_cv ka vF ad)).reverse ++ .ref (ad z.toNat) :: rest.map (am_cv ka vF ad) := by
    rw [est, List.map_append, List.map_cons, hb, List.map_reverse]
  have hMet := hM ad cA tys (fun v hv => q6 v (by
    rcases List.mem_cons.mp hv with e | hv
    · rw [e]; simp
    · simp [hv]))
  rw [hrk] at hMet
  refine la_after (us := as.reverse ++ [(100 + am_own x.1, z)]) (rest := rest) (rt := 9) (a := (Value.ref (ad z.toNat) :: as.map (am_cv ka vF ad)).toArray) hnq hgo P' ?_
  have hav : (Value.ref (ad z.toNat) :: as.map (am_cv ka vF ad)).toArray = (((100 + am_own x.1, z) :: as).map (am_cv ka vF ad)).toArray := by rw [List.map_cons, hb]
  have hwy : am_wy x.1 = Cond.code (am_nm x.1) (am_by x.1) (am_ml x.1) none :: am_wa := by unfold am_wy; rw [hrt]
  have hlen2 : (as.map (am_cv ka vF ad)).length = am_npar x.1 := by rw [List.length_map]; have := am_beq_t hx3; omega
  rw [Bool.or_eq_true] at hx1
  rcases hx1 with hx1 | hx1
  · obtain ⟨f, hf, f1, f2, f3⟩ := am_cl_row (am_y18 C.2.2.2.2.2.2.2) hx1
    have hws := am_cl_word (am_y18 C.2.2.2.2.2.2.2) hf
    unfold am_cws at hws
    rw [f1, f2, f3] at hws
    have u1 := hws (f.2.2.2.1, Cond.methodLink (am_cn (am_own y)) j (am_nm x.1)) List.mem_cons_self
    have u2 := hws (f.2.2.2.2.1, Cond.instanceMethod (am_nm x.1)) (List.mem_cons_of_mem _ List.mem_cons_self)
    exact va_runI (As := as.map (am_cv ka vF ad)) (b := ad z.toNat) (own := am_cn (am_own y)) (index := j) (Ts := am_wa) (n := am_npar x.1) ⟨C.1, C.2.1, C.2.2.1, C.2.2.2.1, C.2.2.2.2.1⟩ hMet
      (cwI (ws' := am_wa) (bytes := am_by x.1) (maxL := am_ml x.1) (am_npar x.1) C.2.2.2.2.1 (am_good (am_wy_in hy)) hwy rfl rfl (by rw [hcls]; exact C.2.2.2.2.1 _ (am_ini_word hown.1)) (C.2.2.2.2.1 _ u1) (C.2.2.2.2.1 _ u2) hnm ⟨by rw [hcls]; exact hpl.2.1, by rw [hcls]; exact hpl.2.2, am_y_par x.1 (by omega)⟩ hroom.1)
      ⟨am_Pc_blind, fun U hU hw => am_pre q1 C.2.2.2.2.2.2.1 C.2.2.2.2.2.1 hWd hU hw hav⟩ rfl hlen2 q3.1 hst (lv_room (by rw [am_cat_sum (am_hF C)]; exact hcat)) hd hroom.2
  · obtain ⟨f, hf, f1, f2, f3⟩ := am_cl_row (am_y18 C.2.2.2.2.2.2.2) hx1
    have hnest := am_cn_nest (am_y18 C.2.2.2.2.2.2.2) hf (Or.inr f3)
    rw [f1, f2] at hnest
    have hws := am_cl_word (am_y18 C.2.2.2.2.2.2.2) hf
    unfold am_cws at hws
    rw [f2, f3] at hws
    have u2 := hws (f.2.2.2.2.1, Cond.instanceMethod (am_nm x.1)) List.mem_cons_self
    exact va_runIN (As := as.map (am_cv ka vF ad)) (b := ad z.toNat) (own := am_cn (am_own y)) (index := j) (Ts := am_wa) (n := am_npar x.1) ⟨C.1, C.2.1, C.2.2.1, C.2.2.2.1, C.2.2.2.2.1⟩ hMet
      ⟨va_cnB (ws' := am_wa) (bytes := am_by x.1) (maxL := am_ml x.1) (ret := none) (am_npar x.1) C.2.2.2.2.1 (am_good (am_wy_in hy)) hwy rfl rfl (C.2.2.2.2.2.1.2.2.2.2.2.2.1 _ hnest) (by rw [hcls]; exact C.2.2.2.2.1 _ (am_ini_word hown.1)) ⟨by rw [hcls]; exact hpl.2.1, by rw [hcls]; exact hpl.2.2, am_y_par x.1 (by omega)⟩ hroom.1, hnm, C.2.2.2.2.1 _ u2⟩
      ⟨am_Pc_blind, fun U hU hw => am_pre q1 C.2.2.2.2.2.2.1 C.2.2.2.2.2.1 hWd hU hw hav⟩ rfl hlen2 q3.1 hst (lv_room (by rw [am_cat_sum (am_hF C)]; exact hcat)) hd hroom.2
