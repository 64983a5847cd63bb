theorem am_shr_r {a b : Int} (ha : am_r32 a) : am_r32 (am_shr a b) := by
  have h := am_i_to (z := a) ha
  have e := am_i_shr ha b
  have h2 := am_i_r (Int32.ofInt a >>> (Int32.ofInt b &&& 31))
  obtain ⟨e1, hb⟩ := am_m31 b
  rw [e1, pk_shr (Int32.ofInt a) (nI (b % 32).toNat) (b % 32).toNat (am_sm32 _ hb), h, Int.shiftRight_eq_div_pow, Int.natCast_pow] at h2
  exact h2
theorem am_lshr_r {a b : Int} (ha : am_r64 a) : am_r64 (am_lshr a b) := by
  obtain ⟨h1, h2⟩ := ha
  unfold am_lshr
  have hp : (0 : Int) < 2 ^ (b % 64).toNat := Int.pow_pos (by decide)
  refine ⟨?_, ?_⟩
  · rw [Int.le_ediv_iff_mul_le hp]
    have : (1 : Int) ≤ 2 ^ (b % 64).toNat := hp
    have h3 : (-9223372036854775808 : Int) * 2 ^ (b % 64).toNat ≤ -9223372036854775808 * 1 := Int.mul_le_mul_of_nonpos_left (by decide) this
    omega
  · rcases Int.le_total 0 a with q | q
    · exact Int.lt_of_le_of_lt (Int.ediv_le_self _ q) h2
    · have : a / 2 ^ (b % 64).toNat < 1 := Int.ediv_lt_of_lt_mul hp (by rw [Int.one_mul]; exact Int.lt_of_le_of_lt q hp)
      omega
theorem am_cmp_r (a b : Int) : am_r32 (am_cmp a b) := by
  unfold am_cmp
  split
  · exact ⟨by decide, by decide⟩
  · split <;> exact ⟨by decide, by decide⟩
theorem am_i2c {a : Int} (ha : am_r32 a) : ((Int32.ofInt a).toUInt32 % 65536).toInt32 = Int32.ofInt (a % 65536) := by
  rw [pk_char]
  have e := am_i_tn a
  refine am_i_eq ?_
  rw [nI_toInt (by omega)]
  omega
theorem go_rep {p : Program} {l : Launch} {e : Env} {R : Room} {s : State} {m : MethodId} {args : Array Value} {below : List Frame} {meth : Method} {c : Code} {Q : State → Prop} {D : va_G} {B0 : Nat} {ka : Nat → Nat} {vF : Value} {md : Bool} {y n0 c0 s0 : Nat} {ad0 : Nat → Nat} {nf : Nat} {G : am_S → Prop} (hG : G = am_Go p l e R s m args below meth c Q D B0 ka vF md y n0 c0 s0 ad0 nf) (C : am_Cx p s m args c y B0 ka vF) {k : am_S → Option am_R} {r : am_R} (hk : ∀ S, k S = some r → G S) {pc nx : Nat} {L st : List am_V} {σ : am_M} {n : Nat} {us vs rest : List am_V} (hst : st = us ++ rest) (hrow : ∀ (H : Heap) (locs : List Loc) (cells slots : Nat) (ls : Array Slot) (ad cA : Nat → Nat) (tys : List (ClassId × FieldType)), am_Pt s D B0 ka vF md y n0 c0 s0 ad0 ls L st σ n H locs cells slots ad cA tys → (∀ v ∈ vs, am_ok n v) ∧ (W p l e R s m args below meth c H locs cells slots Q (F0 m nx ls (vs.map (am_cv ka vF ad) ++ rest.map (am_cv ka vF ad))) → W p l e R s m args below meth c H locs cells slots Q (F0 m pc ls (us.map (am_cv ka vF ad) ++ rest.map (am_cv ka vF ad))))) (h : k (nx, L, vs ++ rest, σ, n) = some r) : G (pc, L, st, σ, n) := by
  subst hG
  have h1 := hk _ h
  refine ⟨h1.1, fun H locs cells slots ls ad cA tys P => ?_⟩
  obtain ⟨hv, hr⟩ := hrow H locs cells slots ls ad cA tys P
  obtain ⟨q1, q2, q3, q4, q5, q6, q7⟩ := P
  have h2 := h1.2 H locs cells slots ls ad cA tys ⟨q1, q2, q3, q4, q5, fun v hv' => ?_, q7⟩
  · dsimp only at h2 ⊢
    rw [List.map_append] at h2
    rw [hst, List.map_append]
    exact hr h2
  · rcases List.mem_append.mp hv' with q | q
    · exact hv v q
    · exact q6 v (by rw [hst]; exact List.mem_append_right _ q)
theorem am_in_r {w : Nat} {z : Int} (h : am_in w z = true) : -(w : Int) ≤ z ∧ z < w := by
  cases z with
  | ofNat q => have : q < w := Nat.le_of_ble_eq_true h; show -(w : Int) ≤ (q : Int) ∧ (q : Int) < w; omega
  | negSucc q => have : q < w := Nat.le_of_ble_eq_true h; omega
theorem am_bip {z : Int} (h : -128 ≤ z ∧ z < 128) : (Int8.ofInt z).toInt32 = Int32.ofInt z := am_i_eq (by
  rw [Int8.toInt_toInt32, Int8.toInt_ofInt]
  show Int.bmod z 256 = z
  unfold Int.bmod
  dsimp only
  split <;> omega)
theorem am_sip {z : Int} (h : -32768 ≤ z ∧ z < 32768) : (Int16.ofInt z).toInt32 = Int32.ofInt z := am_i_eq (by
  rw [Int16.toInt_toInt32, Int16.toInt_ofInt]
  show Int.bmod z 65536 = z
  unfold Int.bmod
  dsimp only
  split <;> omega)
theorem go_iconst {p : Program} {l : Launch} {e : Env} {R : Room} {s : State} {m : MethodId} {args : Array Value} {below : List Frame} {meth : Method} {c : Code} {Q : State → Prop} {D : va_G} {B0 : Nat} {ka : Nat → Nat} {vF : Value} {md : Bool} {y n0 c0 s0 : Nat} {ad0 : Nat → Nat} {nf : Nat} {G : am_S → Prop} (hG : G = am_Go p l e R s m args below meth c Q D B0 ka vF md y n0 c0 s0 ad0 nf) (C : am_Cx p s m args c y B0 ka vF) {k : am_S → Option am_R} {r : am_R} (hk : ∀ S, k S = some r → G S) {pc nx : Nat} {L st : List am_V} {σ : am_M} {n : Nat} {z : Int} (hd : decode (am_by y) pc = .ok (.iconst z, 1)) (hn : nx = pc + 1) (h : (bif am_in 128 z then k (nx, L, (0, z) :: st, σ, n) else none) = some r) : G (pc, L, st, σ, n) := by
  subst hn
  obtain ⟨hb, h⟩ := am_bif_some h
  have hz := am_in_r hb
  refine go_rep hG C hk (us := []) (vs := [(0, z)]) (rest := st) rfl (fun H locs cells slots ls ad cA tys P => ⟨fun v hv => ?_, fun K => ?_⟩) h
  · rw [List.mem_singleton] at hv; subst hv; exact am_ok_0 ⟨by omega, by omega⟩
  · exact lv_iconst C.1 C.2.1 hd rfl K
theorem go_bipush {p : Program} {l : Launch} {e : Env} {R : Room} {s : State} {m : MethodId} {args : Array Value} {below : List Frame} {meth : Method} {c : Code} {Q : State → Prop} {D : va_G} {B0 : Nat} {ka : Nat → Nat} {vF : Value} {md : Bool} {y n0 c0 s0 : Nat} {ad0 : Nat → Nat} {nf : Nat} {G : am_S → Prop} (hG : G = am_Go p l e R s m args below meth c Q D B0 ka vF md y n0 c0 s0 ad0 nf) (C : am_Cx p s m args c y B0 ka vF) {k : am_S → Option am_R} {r : am_R} (hk : ∀ S, k S = some r → G S) {pc nx : Nat} {L st : List am_V} {σ : am_M} {n : Nat} {z : Int} (hd : decode (am_by y) pc = .ok (.bipush z, 2)) (hn : nx = pc + 2) (h : (bif am_in 128 z then k (nx, L, (0, z) :: st, σ, n) else none) = some r) : G (pc, L, st, σ, n) := by
  subst hn
  obtain ⟨hb, h⟩ := am_bif_some h
  have hz := am_in_r hb
  refine go_rep hG C hk (us := []) (vs := [(0, z)]) (rest := st) rfl (fun H locs cells slots ls ad cA tys P => ⟨fun v hv => ?_, fun K => ?_⟩) h
  · rw [List.mem_singleton] at hv; subst hv; exact am_ok_0 ⟨by omega, by omega⟩
  · exact lv_bipush C.1 C.2.1 hd (am_bip hz) K
theorem go_sipush {p : Program} {l : Launch} {e : Env} {R : Room} {s : State} {m : MethodId} {args : Array Value} {below : List Frame} {meth : Method} {c : Code} {Q : State → Prop} {D : va_G} {B0 : Nat} {ka : Nat → Nat} {vF : Value} {md : Bool} {y n0 c0 s0 : Nat} {ad0 : Nat → Nat} {nf : Nat} {G : am_S → Prop} (hG : G = am_Go p l e R s m args below meth c Q D B0 ka vF md y n0 c0 s0 ad0 nf) (C : am_Cx p s m args c y B0 ka vF) {k : am_S → Option am_R} {r : am_R} (hk : ∀ S, k S = some r → G S) {pc nx : Nat} {L st : List am_V} {σ : am_M} {n : Nat} {z : Int} (hd : decode (am_by y) pc = .ok (.sipush z, 3)) (hn : nx = pc + 3) (h : (bif am_in 32768 z then k (nx, L, (0, z) :: st, σ, n) else none) = some r) : G (pc, L, st, σ, n) := by
  subst hn
  obtain ⟨hb, h⟩ := am_bif_some h
  have hz := am_in_r hb
  refine go_rep hG C hk (us := []) (vs := [(0, z)]) (rest := st) rfl (fun H locs cells slots ls ad cA tys P => ⟨fun v hv => ?_, fun K => ?_⟩) h
  · rw [List.mem_singleton] at hv; subst hv; exact am_ok_0 ⟨by omega, by omega⟩
  · exact lv_sipush C.1 C.2.1 hd (am_sip hz) K
theorem go_lconst {p : Program} {l : Launch} {e : Env} {R : Room} {s : State} {m : MethodId} {args : Array Value} {below : List Frame} {meth : Method} {c : Code} {Q : State → Prop} {D : va_G} {B0 : Nat} {ka : Nat → Nat} {vF : Value} {md : Bool} {y n0 c0 s0 : Nat} {ad0 : Nat → Nat} {nf : Nat} {G : am_S → Prop} (hG : G = am_Go p l e R s m args below meth c Q D B0 ka vF md y n0 c0 s0 ad0 nf) (C : am_Cx p s m args c y B0 ka vF) {k : am_S → Option am_R} {r : am_R} (hk : ∀ S, k S = some r → G S) {pc nx : Nat} {L st : List am_V} {σ : am_M} {n : Nat} {z : Fin 2} (hd : decode (am_by y) pc = .ok (.lconst z, 1)) (hn : nx = pc + 1) (h : k (nx, L, (1, (z.val : Int)) :: st, σ, n) = some r) : G (pc, L, st, σ, n) := by
  subst hn
  refine go_rep hG C hk (us := []) (vs := [(1, (z.val : Int))]) (rest := st) rfl (fun H locs cells slots ls ad cA tys P => ⟨fun v hv => ?_, fun K => ?_⟩) h
  · rw [List.mem_singleton] at hv; subst hv; exact am_ok_1 (by have := z.isLt; exact ⟨by omega, by omega⟩)
  · exact lv_lconst C.1 C.2.1 hd rfl K
theorem go_iload {p : Program} {l : Launch} {e : Env} {R : Room} {s : State} {m : MethodId} {args : Array Value} {below : List Frame} {meth : Method} {c : Code} {Q : State → Prop} {D : va_G} {B0 : Nat} {ka : Nat → Nat} {vF : Value} {md : Bool} {y n0 c0 s0 : Nat} {ad0 : Nat → Nat} {nf : Nat} {G : am_S → Prop} (hG : G = am_Go p l e R s m args below meth c Q D B0 ka vF md y n0 c0 s0 ad0 nf) (C : am_Cx p s m args c y B0 ka vF) {k : am_S → Option am_R} {r : am_R} (hk : ∀ S, k S = some r → G S) {pc nx : Nat} {L st : List am_V} {σ : am_M} {n : Nat} {j : Nat} (hd : decode (am_by y) pc = .ok (.iload j, 2)) (hn : nx = pc + 2) (h : (am_ld L j fun t z => bif Nat.beq t 0 then k (nx, L, (t, z) :: st, σ, n) else none) = some r) : G (pc, L, st, σ, n) := by
  subst hn
  obtain ⟨t, z, hl, h⟩ := am_ld_some h
  obtain ⟨hb, h⟩ := am_bif_some h
  obtain rfl : t = 0 := Nat.eq_of_beq_eq_true hb
  refine go_rep hG C hk (us := []) (vs := [(0, z)]) (rest := st) rfl (fun H locs cells slots ls ad cA tys P => ⟨fun v hv => ?_, fun K => ?_⟩) h
  · rw [List.mem_singleton] at hv; subst hv; exact P.2.2.2.2.1 _ _ hl (show (0 : Nat) ≠ 9 by decide)
  · exact lv_iload C.1 C.2.1 hd (am_ld_at hl (show (0 : Nat) ≠ 9 by decide) P.2.2.1) K
theorem go_iload_n {p : Program} {l : Launch} {e : Env} {R : Room} {s : State} {m : MethodId} {args : Array Value} {below : List Frame} {meth : Method} {c : Code} {Q : State → Prop} {D : va_G} {B0 : Nat} {ka : Nat → Nat} {vF : Value} {md : Bool} {y n0 c0 s0 : Nat} {ad0 : Nat → Nat} {nf : Nat} {G : am_S → Prop} (hG : G = am_Go p l e R s m args below meth c Q D B0 ka vF md y n0 c0 s0 ad0 nf) (C : am_Cx p s m args c y B0 ka vF) {k : am_S → Option am_R} {r : am_R} (hk : ∀ S, k S = some r → G S) {pc nx : Nat} {L st : List am_V} {σ : am_M} {n : Nat} {j : Fin 4} (hd : decode (am_by y) pc = .ok (.iload_n j, 1)) (hn : nx = pc + 1) (h : (am_ld L j.val fun t z => bif Nat.beq t 0 then k (nx, L, (t, z) :: st, σ, n) else none) = some r) : G (pc, L, st, σ, n) := by
  subst hn
  obtain ⟨t, z, hl, h⟩ := am_ld_some h
  obtain ⟨hb, h⟩ := am_bif_some h
  obtain rfl : t = 0 := Nat.eq_of_beq_eq_true hb
  refine go_rep hG C hk (us := []) (vs := [(0, z)]) (rest := st) rfl (fun H locs cells slots ls ad cA tys P => ⟨fun v hv => ?_, fun K => ?_⟩) h
  · rw [List.mem_singleton] at hv; subst hv; exact P.2.2.2.2.1 _ _ hl (show (0 : Nat) ≠ 9 by decide)
  · exact lv_iload_n C.1 C.2.1 hd rfl (am_ld_at hl (show (0 : Nat) ≠ 9 by decide) P.2.2.1) K
theorem go_lload {p : Program} {l : Launch} {e : Env} {R : Room} {s : State} {m : MethodId} {args : Array Value} {below : List Frame} {meth : Method} {c : Code} {Q : State → Prop} {D : va_G} {B0 : Nat} {ka : Nat → Nat} {vF : Value} {md : Bool} {y n0 c0 s0 : Nat} {ad0 : Nat → Nat} {nf : Nat} {G : am_S → Prop} (hG : G = am_Go p l e R s m args below meth c Q D B0 ka vF md y n0 c0 s0 ad0 nf) (C : am_Cx p s m args c y B0 ka vF) {k : am_S → Option am_R} {r : am_R} (hk : ∀ S, k S = some r → G S) {pc nx : Nat} {L st : List am_V} {σ : am_M} {n : Nat} {j : Nat} (hd : decode (am_by y) pc = .ok (.lload j, 2)) (hn : nx = pc + 2) (h : (am_ld L j fun t z => bif Nat.beq t 1 then k (nx, L, (t, z) :: st, σ, n) else none) = some r) : G (pc, L, st, σ, n) := by
  subst hn
  obtain ⟨t, z, hl, h⟩ := am_ld_some h
  obtain ⟨hb, h⟩ := am_bif_some h
  obtain rfl : t = 1 := Nat.eq_of_beq_eq_true hb
  refine go_rep hG C hk (us := []) (vs := [(1, z)]) (rest := st) rfl (fun H locs cells slots ls ad cA tys P => ⟨fun v hv => ?_, fun K => ?_⟩) h
  · rw [List.mem_singleton] at hv; subst hv; exact P.2.2.2.2.1 _ _ hl (show (1 : Nat) ≠ 9 by decide)
  · exact lv_lload C.1 C.2.1 hd (am_ld_at hl (show (1 : Nat) ≠ 9 by decide) P.2.2.1) K
theorem go_lload_n {p : Program} {l : Launch} {e : Env} {R : Room} {s : State} {m : MethodId} {args : Array Value} {below : List Frame} {meth : Method} {c : Code} {Q : State → Prop} {D : va_G} {B0 : Nat} {ka : Nat → Nat} {vF : Value} {md : Bool} {y n0 c0 s0 : Nat} {ad0 : Nat → Nat} {nf : Nat} {G : am_S → Prop} (hG : G = am_Go p l e R s m args below meth c Q D B0 ka vF md y n0 c0 s0 ad0 nf) (C : am_Cx p s m args c y B0 ka vF) {k : am_S → Option am_R} {r : am_R} (hk : ∀ S, k S = some r → G S) {pc nx : Nat} {L st : List am_V} {σ : am_M} {n : Nat} {j : Fin 4} (hd : decode (am_by y) pc = .ok (.lload_n j, 1)) (hn : nx = pc + 1) (h : (am_ld L j.val fun t z => bif Nat.beq t 1 then k (nx, L, (t, z) :: st, σ, n) else none) = some r) : G (pc, L, st, σ, n) := by
  subst hn
  obtain ⟨t, z, hl, h⟩ := am_ld_some h
  obtain ⟨hb, h⟩ := am_bif_some h
  obtain rfl : t = 1 := Nat.eq_of_beq_eq_true hb
  refine go_rep hG C hk (us := []) (vs := [(1, z)]) (rest := st) rfl (fun H locs cells slots ls ad cA tys P => ⟨fun v hv => ?_, fun K => ?_⟩) h
  · rw [List.mem_singleton] at hv; subst hv; exact P.2.2.2.2.1 _ _ hl (show (1 : Nat) ≠ 9 by decide)
  · exact lv_lload_n C.1 C.2.1 hd rfl (am_ld_at hl (show (1 : Nat) ≠ 9 by decide) P.2.2.1) K
theorem am_cv_ref {ka : Nat → Nat} {vF : Value} {ad : Nat → Nat} {n t : Nat} {z : Int} (hF : vF = .null ∨ ∃ a, vF = .ref a) (ht : 10 ≤ t) (_ : am_ok n (t, z)) : am_cv ka vF ad (t, z) = .null ∨ ∃ a, am_cv ka vF ad (t, z) = .ref a := by
  unfold am_cv
  dsimp only
  have e0 : Nat.beq t 0 = false := by cases q : Nat.beq t 0 with
    | false => rfl
    | true => rw [Nat.eq_of_beq_eq_true q] at ht; omega
  have e1 : Nat.beq t 1 = false := by cases q : Nat.beq t 1 with
    | false => rfl
    | true => rw [Nat.eq_of_beq_eq_true q] at ht; omega
  rw [e0, e1]
  cases h17 : Nat.beq t 17 with
  | true => exact hF
  | false =>
    show (if z < 0 then Value.null else _) = _ ∨ ∃ a, (if z < 0 then Value.null else _) = _
    by_cases hz : z < 0
    · exact Or.inl (if_pos hz)
    · exact Or.inr ⟨_, if_neg hz⟩
theorem go_aload {p : Program} {l : Launch} {e : Env} {R : Room} {s : State} {m : MethodId} {args : Array Value} {below : List Frame} {meth : Method} {c : Code} {Q : State → Prop} {D : va_G} {B0 : Nat} {ka : Nat → Nat} {vF : Value} {md : Bool} {y n0 c0 s0 : Nat} {ad0 : Nat → Nat} {nf : Nat} {G : am_S → Prop} (hG : G = am_Go p l e R s m args below meth c Q D B0 ka vF md y n0 c0 s0 ad0 nf) (C : am_Cx p s m args c y B0 ka vF) {k : am_S → Option am_R} {r : am_R} (hk : ∀ S, k S = some r → G S) {pc nx : Nat} {L st : List am_V} {σ : am_M} {n : Nat} {j : Nat} (hd : decode (am_by y) pc = .ok (.aload j, 2)) (hn : nx = pc + 2) (h : (am_ld L j fun t z => bif Nat.ble 10 t then k (nx, L, (t, z) :: st, σ, n) else none) = some r) : G (pc, L, st, σ, n) := by
  subst hn
  obtain ⟨t, z, hl, h⟩ := am_ld_some h
  obtain ⟨hb, h⟩ := am_bif_some h
  have ht : 10 ≤ t := Nat.le_of_ble_eq_true hb
  have h9 : t ≠ 9 := by omega
  refine go_rep hG C hk (us := []) (vs := [(t, z)]) (rest := st) rfl (fun H locs cells slots ls ad cA tys P => ⟨fun v hv => ?_, fun K => ?_⟩) h
  · rw [List.mem_singleton] at hv; subst hv; exact P.2.2.2.2.1 _ _ hl h9
  · have a1 := am_ld_at hl h9 P.2.2.1
    rcases am_cv_ref C.2.2.2.2.2.1.2.2.2.1 ht (P.2.2.2.2.1 _ _ hl h9) with q | ⟨a, q⟩
    · change W p l e R s m args below meth c H locs cells slots Q (F0 m _ ls (am_cv ka vF ad (t, z) :: _)) at K
      rw [q] at K a1
      exact lv_aloadN C.1 C.2.1 hd a1 K
    · change W p l e R s m args below meth c H locs cells slots Q (F0 m _ ls (am_cv ka vF ad (t, z) :: _)) at K
      rw [q] at K a1
      exact lv_aload C.1 C.2.1 hd a1 K
theorem go_aload_n {p : Program} {l : Launch} {e : Env} {R : Room} {s : State} {m : MethodId} {args : Array Value} {below : List Frame} {meth : Method} {c : Code} {Q : State → Prop} {D : va_G} {B0 : Nat} {ka : Nat → Nat} {vF : Value} {md : Bool} {y n0 c0 s0 : Nat} {ad0 : Nat → Nat} {nf : Nat} {G : am_S → Prop} (hG : G = am_Go p l e R s m args below meth c Q D B0 ka vF md y n0 c0 s0 ad0 nf) (C : am_Cx p s m args c y B0 ka vF) {k : am_S → Option am_R} {r : am_R} (hk : ∀ S, k S = some r → G S) {pc nx : Nat} {L st : List am_V} {σ : am_M} {n : Nat} {j : Fin 4} (hd : decode (am_by y) pc = .ok (.aload_n j, 1)) (hn : nx = pc + 1) (h : (am_ld L j.val fun t z => bif Nat.ble 10 t then k (nx, L, (t, z) :: st, σ, n) else none) = some r) : G (pc, L, st, σ, n) := by
  subst hn
  obtain ⟨t, z, hl, h⟩ := am_ld_some h
  obtain ⟨hb, h⟩ := am_bif_some h
  have ht : 10 ≤ t := Nat.le_of_ble_eq_true hb
  have h9 : t ≠ 9 := by omega
  refine go_rep hG C hk (us := []) (vs := [(t, z)]) (rest := st) rfl (fun H locs cells slots ls ad cA tys P => ⟨fun v hv => ?_, fun K => ?_⟩) h
  · rw [List.mem_singleton] at hv; subst hv; exact P.2.2.2.2.1 _ _ hl h9
  · have a1 := am_ld_at hl h9 P.2.2.1
    rcases am_cv_ref C.2.2.2.2.2.1.2.2.2.1 ht (P.2.2.2.2.1 _ _ hl h9) with q | ⟨a, q⟩
    · change W p l e R s m args below meth c H locs cells slots Q (F0 m _ ls (am_cv ka vF ad (t, z) :: _)) at K
      rw [q] at K a1
      exact lv_aload_nN C.1 C.2.1 hd rfl a1 K
    · change W p l e R s m args below meth c H locs cells slots Q (F0 m _ ls (am_cv ka vF ad (t, z) :: _)) at K
      rw [q] at K a1
      exact lv_aload_n C.1 C.2.1 hd rfl a1 K
theorem go_iadd {p : Program} {l : Launch} {e : Env} {R : Room} {s : State} {m : MethodId} {args : Array Value} {below : List Frame} {meth : Method} {c : Code} {Q : State → Prop} {D : va_G} {B0 : Nat} {ka : Nat → Nat} {vF : Value} {md : Bool} {y n0 c0 s0 : Nat} {ad0 : Nat → Nat} {nf : Nat} {G : am_S → Prop} (hG : G = am_Go p l e R s m args below meth c Q D B0 ka vF md y n0 c0 s0 ad0 nf) (C : am_Cx p s m args c y B0 ka vF) {k : am_S → Option am_R} {r : am_R} (hk : ∀ S, k S = some r → G S) {pc nx : Nat} {L st : List am_V} {σ : am_M} {n : Nat} (hd : decode (am_by y) pc = .ok (.iadd, 1)) (hn : nx = pc + 1) (h : (am_ii st fun a b st => k (nx, L, (0, am_w (a + b)) :: st, σ, n)) = some r) : G (pc, L, st, σ, n) := by
  subst hn
  obtain ⟨a, b, st', rfl, h⟩ := am_ii_some h
  refine go_rep hG C hk (us := [(0, b), (0, a)]) (vs := [(0, am_w (a + b))]) (rest := st') rfl (fun H locs cells slots ls ad cA tys P => ?_) h
  have hb := am_ok_i (P.2.2.2.2.2.1 (0, b) (by simp))
  have ha := am_ok_i (P.2.2.2.2.2.1 (0, a) (by simp))
  refine ⟨fun v hv => ?_, fun K => ?_⟩
  · rw [List.mem_singleton] at hv; subst hv; exact am_ok_0 (am_w_r _)
  · refine lv_iadd C.1 C.2.1 hd ?_
    rw [am_i_add ha hb]
    exact K
theorem go_isub {p : Program} {l : Launch} {e : Env} {R : Room} {s : State} {m : MethodId} {args : Array Value} {below : List Frame} {meth : Method} {c : Code} {Q : State → Prop} {D : va_G} {B0 : Nat} {ka : Nat → Nat} {vF : Value} {md : Bool} {y n0 c0 s0 : Nat} {ad0 : Nat → Nat} {nf : Nat} {G : am_S → Prop} (hG : G = am_Go p l e R s m args below meth c Q D B0 ka vF md y n0 c0 s0 ad0 nf) (C : am_Cx p s m args c y B0 ka vF) {k : am_S → Option am_R} {r : am_R} (hk : ∀ S, k S = some r → G S) {pc nx : Nat} {L st : List am_V} {σ : am_M} {n : Nat} (hd : decode (am_by y) pc = .ok (.isub, 1)) (hn : nx = pc + 1) (h : (am_ii st fun a b st => k (nx, L, (0, am_w (a - b)) :: st, σ, n)) = some r) : G (pc, L, st, σ, n) := by
  subst hn
  obtain ⟨a, b, st', rfl, h⟩ := am_ii_some h
  refine go_rep hG C hk (us := [(0, b), (0, a)]) (vs := [(0, am_w (a - b))]) (rest := st') rfl (fun H locs cells slots ls ad cA tys P => ?_) h
  have hb := am_ok_i (P.2.2.2.2.2.1 (0, b) (by simp))
  have ha := am_ok_i (P.2.2.2.2.2.1 (0, a) (by simp))
  refine ⟨fun v hv => ?_, fun K => ?_⟩
  · rw [List.mem_singleton] at hv; subst hv; exact am_ok_0 (am_w_r _)
  · refine lv_isub C.1 C.2.1 hd ?_
    rw [am_i_sub ha hb]
    exact K
theorem go_imul {p : Program} {l : Launch} {e : Env} {R : Room} {s : State} {m : MethodId} {args : Array Value} {below : List Frame} {meth : Method} {c : Code} {Q : State → Prop} {D : va_G} {B0 : Nat} {ka : Nat → Nat} {vF : Value} {md : Bool} {y n0 c0 s0 : Nat} {ad0 : Nat → Nat} {nf : Nat} {G : am_S → Prop} (hG : G = am_Go p l e R s m args below meth c Q D B0 ka vF md y n0 c0 s0 ad0 nf) (C : am_Cx p s m args c y B0 ka vF) {k : am_S → Option am_R} {r : am_R} (hk : ∀ S, k S = some r → G S) {pc nx : Nat} {L st : List am_V} {σ : am_M} {n : Nat} (hd : decode (am_by y) pc = .ok (.imul, 1)) (hn : nx = pc + 1) (h : (am_ii st fun a b st => k (nx, L, (0, am_w (a * b)) :: st, σ, n)) = some r) : G (pc, L, st, σ, n) := by
  subst hn
  obtain ⟨a, b, st', rfl, h⟩ := am_ii_some h
  refine go_rep hG C hk (us := [(0, b), (0, a)]) (vs := [(0, am_w (a * b))]) (rest := st') rfl (fun H locs cells slots ls ad cA tys P => ?_) h
  have hb := am_ok_i (P.2.2.2.2.2.1 (0, b) (by simp))
  have ha := am_ok_i (P.2.2.2.2.2.1 (0, a) (by simp))
  refine ⟨fun v hv => ?_, fun K => ?_⟩
  · rw [List.mem_singleton] at hv; subst hv; exact am_ok_0 (am_w_r _)
  · refine lv_imul C.1 C.2.1 hd ?_
    rw [am_i_mul ha hb]
    exact K
theorem go_iand {p : Program} {l : Launch} {e : Env} {R : Room} {s : State} {m : MethodId} {args : Array Value} {below : List Frame} {meth : Method} {c : Code} {Q : State → Prop} {D : va_G} {B0 : Nat} {ka : Nat → Nat} {vF : Value} {md : Bool} {y n0 c0 s0 : Nat} {ad0 : Nat → Nat} {nf : Nat} {G : am_S → Prop} (hG : G = am_Go p l e R s m args below meth c Q D B0 ka vF md y n0 c0 s0 ad0 nf) (C : am_Cx p s m args c y B0 ka vF) {k : am_S → Option am_R} {r : am_R} (hk : ∀ S, k S = some r → G S) {pc nx : Nat} {L st : List am_V} {σ : am_M} {n : Nat} (hd : decode (am_by y) pc = .ok (.iand, 1)) (hn : nx = pc + 1) (h : (am_ii st fun a b st => k (nx, L, (0, am_and a b) :: st, σ, n)) = some r) : G (pc, L, st, σ, n) := by
  subst hn
  obtain ⟨a, b, st', rfl, h⟩ := am_ii_some h
  refine go_rep hG C hk (us := [(0, b), (0, a)]) (vs := [(0, am_and a b)]) (rest := st') rfl (fun H locs cells slots ls ad cA tys P => ?_) h
  have hb := am_ok_i (P.2.2.2.2.2.1 (0, b) (by simp))
  have ha := am_ok_i (P.2.2.2.2.2.1 (0, a) (by simp))
  refine ⟨fun v hv => ?_, fun K => ?_⟩
  · rw [List.mem_singleton] at hv; subst hv; exact am_ok_0 (am_bv32 _)
  · refine lv_iand C.1 C.2.1 hd ?_
    rw [am_i_and]
    exact K
theorem go_ior {p : Program} {l : Launch} {e : Env} {R : Room} {s : State} {m : MethodId} {args : Array Value} {below : List Frame} {meth : Method} {c : Code} {Q : State → Prop} {D : va_G} {B0 : Nat} {ka : Nat → Nat} {vF : Value} {md : Bool} {y n0 c0 s0 : Nat} {ad0 : Nat → Nat} {nf : Nat} {G : am_S → Prop} (hG : G = am_Go p l e R s m args below meth c Q D B0 ka vF md y n0 c0 s0 ad0 nf) (C : am_Cx p s m args c y B0 ka vF) {k : am_S → Option am_R} {r : am_R} (hk : ∀ S, k S = some r → G S) {pc nx : Nat} {L st : List am_V} {σ : am_M} {n : Nat} (hd : decode (am_by y) pc = .ok (.ior, 1)) (hn : nx = pc + 1) (h : (am_ii st fun a b st => k (nx, L, (0, am_or a b) :: st, σ, n)) = some r) : G (pc, L, st, σ, n) := by
  subst hn
  obtain ⟨a, b, st', rfl, h⟩ := am_ii_some h
  refine go_rep hG C hk (us := [(0, b), (0, a)]) (vs := [(0, am_or a b)]) (rest := st') rfl (fun H locs cells slots ls ad cA tys P => ?_) h
  have hb := am_ok_i (P.2.2.2.2.2.1 (0, b) (by simp))
  have ha := am_ok_i (P.2.2.2.2.2.1 (0, a) (by simp))
  refine ⟨fun v hv => ?_, fun K => ?_⟩
  · rw [List.mem_singleton] at hv; subst hv; exact am_ok_0 (am_bv32 _)
  · refine lv_ior C.1 C.2.1 hd ?_
    rw [am_i_or]
    exact K
theorem go_ixor {p : Program} {l : Launch} {e : Env} {R : Room} {s : State} {m : MethodId} {args : Array Value} {below : List Frame} {meth : Method} {c : Code} {Q : State → Prop} {D : va_G} {B0 : Nat} {ka : Nat → Nat} {vF : Value} {md : Bool} {y n0 c0 s0 : Nat} {ad0 : Nat → Nat} {nf : Nat} {G : am_S → Prop} (hG : G = am_Go p l e R s m args below meth c Q D B0 ka vF md y n0 c0 s0 ad0 nf) (C : am_Cx p s m args c y B0 ka vF) {k : am_S → Option am_R} {r : am_R} (hk : ∀ S, k S = some r → G S) {pc nx : Nat} {L st : List am_V} {σ : am_M} {n : Nat} (hd : decode (am_by y) pc = .ok (.ixor, 1)) (hn : nx = pc + 1) (h : (am_ii st fun a b st => k (nx, L, (0, am_xor a b) :: st, σ, n)) = some r) : G (pc, L, st, σ, n) := by
  subst hn
  obtain ⟨a, b, st', rfl, h⟩ := am_ii_some h
  refine go_rep hG C hk (us := [(0, b), (0, a)]) (vs := [(0, am_xor a b)]) (rest := st') rfl (fun H locs cells slots ls ad cA tys P => ?_) h
  have hb := am_ok_i (P.2.2.2.2.2.1 (0, b) (by simp))
  have ha := am_ok_i (P.2.2.2.2.2.1 (0, a) (by simp))
  refine ⟨fun v hv => ?_, fun K => ?_⟩
  · rw [List.mem_singleton] at hv; subst hv; exact am_ok_0 (am_bv32 _)
  · refine lv_ixor C.1 C.2.1 hd ?_
    rw [am_i_xor]
    exact K
theorem go_ishl {p : Program} {l : Launch} {e : Env} {R : Room} {s : State} {m : MethodId} {args : Array Value} {below : List Frame} {meth : Method} {c : Code} {Q : State → Prop} {D : va_G} {B0 : Nat} {ka : Nat → Nat} {vF : Value} {md : Bool} {y n0 c0 s0 : Nat} {ad0 : Nat → Nat} {nf : Nat} {G : am_S → Prop} (hG : G = am_Go p l e R s m args below meth c Q D B0 ka vF md y n0 c0 s0 ad0 nf) (C : am_Cx p s m args c y B0 ka vF) {k : am_S → Option am_R} {r : am_R} (hk : ∀ S, k S = some r → G S) {pc nx : Nat} {L st : List am_V} {σ : am_M} {n : Nat} (hd : decode (am_by y) pc = .ok (.ishl, 1)) (hn : nx = pc + 1) (h : (am_ii st fun a b st => k (nx, L, (0, am_shl a b) :: st, σ, n)) = some r) : G (pc, L, st, σ, n) := by
  subst hn
  obtain ⟨a, b, st', rfl, h⟩ := am_ii_some h
  refine go_rep hG C hk (us := [(0, b), (0, a)]) (vs := [(0, am_shl a b)]) (rest := st') rfl (fun H locs cells slots ls ad cA tys P => ?_) h
  have hb := am_ok_i (P.2.2.2.2.2.1 (0, b) (by simp))
  have ha := am_ok_i (P.2.2.2.2.2.1 (0, a) (by simp))
  refine ⟨fun v hv => ?_, fun K => ?_⟩
  · rw [List.mem_singleton] at hv; subst hv; exact am_ok_0 (am_w_r _)
  · refine lv_ishl C.1 C.2.1 hd ?_
    rw [am_i_shl]
    exact K
theorem go_ishr {p : Program} {l : Launch} {e : Env} {R : Room} {s : State} {m : MethodId} {args : Array Value} {below : List Frame} {meth : Method} {c : Code} {Q : State → Prop} {D : va_G} {B0 : Nat} {ka : Nat → Nat} {vF : Value} {md : Bool} {y n0 c0 s0 : Nat} {ad0 : Nat → Nat} {nf : Nat} {G : am_S → Prop} (hG : G = am_Go p l e R s m args below meth c Q D B0 ka vF md y n0 c0 s0 ad0 nf) (C : am_Cx p s m args c y B0 ka vF) {k : am_S → Option am_R} {r : am_R} (hk : ∀ S, k S = some r → G S) {pc nx : Nat} {L st : List am_V} {σ : am_M} {n : Nat} (hd : decode (am_by y) pc = .ok (.ishr, 1)) (hn : nx = pc + 1) (h : (am_ii st fun a b st => k (nx, L, (0, am_shr a b) :: st, σ, n)) = some r) : G (pc, L, st, σ, n) := by
  subst hn
  obtain ⟨a, b, st', rfl, h⟩ := am_ii_some h
  refine go_rep hG C hk (us := [(0, b), (0, a)]) (vs := [(0, am_shr a b)]) (rest := st') rfl (fun H locs cells slots ls ad cA tys P => ?_) h
  have hb := am_ok_i (P.2.2.2.2.2.1 (0, b) (by simp))
  have ha := am_ok_i (P.2.2.2.2.2.1 (0, a) (by simp))
  refine ⟨fun v hv => ?_, fun K => ?_⟩
  · rw [List.mem_singleton] at hv; subst hv; exact am_ok_0 (am_shr_r ha)
  · refine lv_ishr C.1 C.2.1 hd ?_
    rw [am_i_shr ha]
    exact K
theorem go_iushr {p : Program} {l : Launch} {e : Env} {R : Room} {s : State} {m : MethodId} {args : Array Value} {below : List Frame} {meth : Method} {c : Code} {Q : State → Prop} {D : va_G} {B0 : Nat} {ka : Nat → Nat} {vF : Value} {md : Bool} {y n0 c0 s0 : Nat} {ad0 : Nat → Nat} {nf : Nat} {G : am_S → Prop} (hG : G = am_Go p l e R s m args below meth c Q D B0 ka vF md y n0 c0 s0 ad0 nf) (C : am_Cx p s m args c y B0 ka vF) {k : am_S → Option am_R} {r : am_R} (hk : ∀ S, k S = some r → G S) {pc nx : Nat} {L st : List am_V} {σ : am_M} {n : Nat} (hd : decode (am_by y) pc = .ok (.iushr, 1)) (hn : nx = pc + 1) (h : (am_ii st fun a b st => k (nx, L, (0, am_ushr a b) :: st, σ, n)) = some r) : G (pc, L, st, σ, n) := by
  subst hn
  obtain ⟨a, b, st', rfl, h⟩ := am_ii_some h
  refine go_rep hG C hk (us := [(0, b), (0, a)]) (vs := [(0, am_ushr a b)]) (rest := st') rfl (fun H locs cells slots ls ad cA tys P => ?_) h
  have hb := am_ok_i (P.2.2.2.2.2.1 (0, b) (by simp))
  have ha := am_ok_i (P.2.2.2.2.2.1 (0, a) (by simp))
  refine ⟨fun v hv => ?_, fun K => ?_⟩
  · rw [List.mem_singleton] at hv; subst hv; exact am_ok_0 (am_w_r _)
  · refine lv_iushr C.1 C.2.1 hd rfl ?_
    rw [am_i_ushr]
    exact K
theorem go_idiv {p : Program} {l : Launch} {e : Env} {R : Room} {s : State} {m : MethodId} {args : Array Value} {below : List Frame} {meth : Method} {c : Code} {Q : State → Prop} {D : va_G} {B0 : Nat} {ka : Nat → Nat} {vF : Value} {md : Bool} {y n0 c0 s0 : Nat} {ad0 : Nat → Nat} {nf : Nat} {G : am_S → Prop} (hG : G = am_Go p l e R s m args below meth c Q D B0 ka vF md y n0 c0 s0 ad0 nf) (C : am_Cx p s m args c y B0 ka vF) {k : am_S → Option am_R} {r : am_R} (hk : ∀ S, k S = some r → G S) {pc nx : Nat} {L st : List am_V} {σ : am_M} {n : Nat} (hd : decode (am_by y) pc = .ok (.idiv, 1)) (hn : nx = pc + 1) (h : (am_ii st fun a b st => am_if (¬ b = 0) (k (nx, L, (0, am_w (Int.tdiv a b)) :: st, σ, n))) = some r) : G (pc, L, st, σ, n) := by
  subst hn
  obtain ⟨a, b, st', rfl, h⟩ := am_ii_some h
  obtain ⟨hz, h⟩ := am_if_some h
  refine go_rep hG C hk (us := [(0, b), (0, a)]) (vs := [(0, am_w (Int.tdiv a b))]) (rest := st') rfl (fun H locs cells slots ls ad cA tys P => ?_) h
  have hb := am_ok_i (P.2.2.2.2.2.1 (0, b) (by simp))
  have ha := am_ok_i (P.2.2.2.2.2.1 (0, a) (by simp))
  refine ⟨fun v hv => ?_, fun K => ?_⟩
  · rw [List.mem_singleton] at hv; subst hv; exact am_ok_0 (am_w_r _)
  · refine lv_idiv C.1 C.2.1 hd (fun q => hz ((am_i_inj hb ⟨by decide, by decide⟩).mp q)) ?_
    rw [am_i_div ha hb]
    exact K
theorem go_irem {p : Program} {l : Launch} {e : Env} {R : Room} {s : State} {m : MethodId} {args : Array Value} {below : List Frame} {meth : Method} {c : Code} {Q : State → Prop} {D : va_G} {B0 : Nat} {ka : Nat → Nat} {vF : Value} {md : Bool} {y n0 c0 s0 : Nat} {ad0 : Nat → Nat} {nf : Nat} {G : am_S → Prop} (hG : G = am_Go p l e R s m args below meth c Q D B0 ka vF md y n0 c0 s0 ad0 nf) (C : am_Cx p s m args c y B0 ka vF) {k : am_S → Option am_R} {r : am_R} (hk : ∀ S, k S = some r → G S) {pc nx : Nat} {L st : List am_V} {σ : am_M} {n : Nat} (hd : decode (am_by y) pc = .ok (.irem, 1)) (hn : nx = pc + 1) (h : (am_ii st fun a b st => am_if (¬ b = 0) (k (nx, L, (0, Int.tmod a b) :: st, σ, n))) = some r) : G (pc, L, st, σ, n) := by
  subst hn
  obtain ⟨a, b, st', rfl, h⟩ := am_ii_some h
  obtain ⟨hz, h⟩ := am_if_some h
  refine go_rep hG C hk (us := [(0, b), (0, a)]) (vs := [(0, Int.tmod a b)]) (rest := st') rfl (fun H locs cells slots ls ad cA tys P => ?_) h
  have hb := am_ok_i (P.2.2.2.2.2.1 (0, b) (by simp))
  have ha := am_ok_i (P.2.2.2.2.2.1 (0, a) (by simp))
  refine ⟨fun v hv => ?_, fun K => ?_⟩
  · rw [List.mem_singleton] at hv; subst hv; exact am_ok_0 (am_tmod_r ha)
  · refine lv_irem C.1 C.2.1 hd (fun q => hz ((am_i_inj hb ⟨by decide, by decide⟩).mp q)) ?_
    rw [am_i_rem ha hb]
    exact K
theorem go_ladd {p : Program} {l : Launch} {e : Env} {R : Room} {s : State} {m : MethodId} {args : Array Value} {below : List Frame} {meth : Method} {c : Code} {Q : State → Prop} {D : va_G} {B0 : Nat} {ka : Nat → Nat} {vF : Value} {md : Bool} {y n0 c0 s0 : Nat} {ad0 : Nat → Nat} {nf : Nat} {G : am_S → Prop} (hG : G = am_Go p l e R s m args below meth c Q D B0 ka vF md y n0 c0 s0 ad0 nf) (C : am_Cx p s m args c y B0 ka vF) {k : am_S → Option am_R} {r : am_R} (hk : ∀ S, k S = some r → G S) {pc nx : Nat} {L st : List am_V} {σ : am_M} {n : Nat} (hd : decode (am_by y) pc = .ok (.ladd, 1)) (hn : nx = pc + 1) (h : (am_ll st fun a b st => k (nx, L, (1, am_x (a + b)) :: st, σ, n)) = some r) : G (pc, L, st, σ, n) := by
  subst hn
  obtain ⟨a, b, st', rfl, h⟩ := am_ll_some h
  refine go_rep hG C hk (us := [(1, b), (1, a)]) (vs := [(1, am_x (a + b))]) (rest := st') rfl (fun H locs cells slots ls ad cA tys P => ?_) h
  have hb := am_ok_l (P.2.2.2.2.2.1 (1, b) (by simp))
  have ha := am_ok_l (P.2.2.2.2.2.1 (1, a) (by simp))
  refine ⟨fun v hv => ?_, fun K => ?_⟩
  · rw [List.mem_singleton] at hv; subst hv; exact am_ok_1 (am_x_r _)
  · refine lv_ladd C.1 C.2.1 hd ?_
    rw [am_l_add ha hb]
    exact K
theorem go_lsub {p : Program} {l : Launch} {e : Env} {R : Room} {s : State} {m : MethodId} {args : Array Value} {below : List Frame} {meth : Method} {c : Code} {Q : State → Prop} {D : va_G} {B0 : Nat} {ka : Nat → Nat} {vF : Value} {md : Bool} {y n0 c0 s0 : Nat} {ad0 : Nat → Nat} {nf : Nat} {G : am_S → Prop} (hG : G = am_Go p l e R s m args below meth c Q D B0 ka vF md y n0 c0 s0 ad0 nf) (C : am_Cx p s m args c y B0 ka vF) {k : am_S → Option am_R} {r : am_R} (hk : ∀ S, k S = some r → G S) {pc nx : Nat} {L st : List am_V} {σ : am_M} {n : Nat} (hd : decode (am_by y) pc = .ok (.lsub, 1)) (hn : nx = pc + 1) (h : (am_ll st fun a b st => k (nx, L, (1, am_x (a - b)) :: st, σ, n)) = some r) : G (pc, L, st, σ, n) := by
  subst hn
  obtain ⟨a, b, st', rfl, h⟩ := am_ll_some h
  refine go_rep hG C hk (us := [(1, b), (1, a)]) (vs := [(1, am_x (a - b))]) (rest := st') rfl (fun H locs cells slots ls ad cA tys P => ?_) h
  have hb := am_ok_l (P.2.2.2.2.2.1 (1, b) (by simp))
  have ha := am_ok_l (P.2.2.2.2.2.1 (1, a) (by simp))
  refine ⟨fun v hv => ?_, fun K => ?_⟩
  · rw [List.mem_singleton] at hv; subst hv; exact am_ok_1 (am_x_r _)
  · refine lv_lsub C.1 C.2.1 hd ?_
    rw [am_l_sub ha hb]
    exact K
theorem go_lmul {p : Program} {l : Launch} {e : Env} {R : Room} {s : State} {m : MethodId} {args : Array Value} {below : List Frame} {meth : Method} {c : Code} {Q : State → Prop} {D : va_G} {B0 : Nat} {ka : Nat → Nat} {vF : Value} {md : Bool} {y n0 c0 s0 : Nat} {ad0 : Nat → Nat} {nf : Nat} {G : am_S → Prop} (hG : G = am_Go p l e R s m args below meth c Q D B0 ka vF md y n0 c0 s0 ad0 nf) (C : am_Cx p s m args c y B0 ka vF) {k : am_S → Option am_R} {r : am_R} (hk : ∀ S, k S = some r → G S) {pc nx : Nat} {L st : List am_V} {σ : am_M} {n : Nat} (hd : decode (am_by y) pc = .ok (.lmul, 1)) (hn : nx = pc + 1) (h : (am_ll st fun a b st => k (nx, L, (1, am_x (a * b)) :: st, σ, n)) = some r) : G (pc, L, st, σ, n) := by
  subst hn
  obtain ⟨a, b, st', rfl, h⟩ := am_ll_some h
  refine go_rep hG C hk (us := [(1, b), (1, a)]) (vs := [(1, am_x (a * b))]) (rest := st') rfl (fun H locs cells slots ls ad cA tys P => ?_) h
  have hb := am_ok_l (P.2.2.2.2.2.1 (1, b) (by simp))
  have ha := am_ok_l (P.2.2.2.2.2.1 (1, a) (by simp))
  refine ⟨fun v hv => ?_, fun K => ?_⟩
  · rw [List.mem_singleton] at hv; subst hv; exact am_ok_1 (am_x_r _)
  · refine lv_lmul C.1 C.2.1 hd ?_
    rw [am_l_mul ha hb]
    exact K
theorem go_land {p : Program} {l : Launch} {e : Env} {R : Room} {s : State} {m : MethodId} {args : Array Value} {below : List Frame} {meth : Method} {c : Code} {Q : State → Prop} {D : va_G} {B0 : Nat} {ka : Nat → Nat} {vF : Value} {md : Bool} {y n0 c0 s0 : Nat} {ad0 : Nat → Nat} {nf : Nat} {G : am_S → Prop} (hG : G = am_Go p l e R s m args below meth c Q D B0 ka vF md y n0 c0 s0 ad0 nf) (C : am_Cx p s m args c y B0 ka vF) {k : am_S → Option am_R} {r : am_R} (hk : ∀ S, k S = some r → G S) {pc nx : Nat} {L st : List am_V} {σ : am_M} {n : Nat} (hd : decode (am_by y) pc = .ok (.land, 1)) (hn : nx = pc + 1) (h : (am_ll st fun a b st => k (nx, L, (1, am_land a b) :: st, σ, n)) = some r) : G (pc, L, st, σ, n) := by
  subst hn
  obtain ⟨a, b, st', rfl, h⟩ := am_ll_some h
  refine go_rep hG C hk (us := [(1, b), (1, a)]) (vs := [(1, am_land a b)]) (rest := st') rfl (fun H locs cells slots ls ad cA tys P => ?_) h
  have hb := am_ok_l (P.2.2.2.2.2.1 (1, b) (by simp))
  have ha := am_ok_l (P.2.2.2.2.2.1 (1, a) (by simp))
  refine ⟨fun v hv => ?_, fun K => ?_⟩
  · rw [List.mem_singleton] at hv; subst hv; exact am_ok_1 (am_bv64 _)
  · refine lv_land C.1 C.2.1 hd ?_
    rw [am_l_and]
    exact K
theorem go_lor {p : Program} {l : Launch} {e : Env} {R : Room} {s : State} {m : MethodId} {args : Array Value} {below : List Frame} {meth : Method} {c : Code} {Q : State → Prop} {D : va_G} {B0 : Nat} {ka : Nat → Nat} {vF : Value} {md : Bool} {y n0 c0 s0 : Nat} {ad0 : Nat → Nat} {nf : Nat} {G : am_S → Prop} (hG : G = am_Go p l e R s m args below meth c Q D B0 ka vF md y n0 c0 s0 ad0 nf) (C : am_Cx p s m args c y B0 ka vF) {k : am_S → Option am_R} {r : am_R} (hk : ∀ S, k S = some r → G S) {pc nx : Nat} {L st : List am_V} {σ : am_M} {n : Nat} (hd : decode (am_by y) pc = .ok (.lor, 1)) (hn : nx = pc + 1) (h : (am_ll st fun a b st => k (nx, L, (1, am_lor a b) :: st, σ, n)) = some r) : G (pc, L, st, σ, n) := by
  subst hn
  obtain ⟨a, b, st', rfl, h⟩ := am_ll_some h
  refine go_rep hG C hk (us := [(1, b), (1, a)]) (vs := [(1, am_lor a b)]) (rest := st') rfl (fun H locs cells slots ls ad cA tys P => ?_) h
  have hb := am_ok_l (P.2.2.2.2.2.1 (1, b) (by simp))
  have ha := am_ok_l (P.2.2.2.2.2.1 (1, a) (by simp))
  refine ⟨fun v hv => ?_, fun K => ?_⟩
  · rw [List.mem_singleton] at hv; subst hv; exact am_ok_1 (am_bv64 _)
  · refine lv_lor C.1 C.2.1 hd ?_
    rw [am_l_or]
    exact K
theorem go_lxor {p : Program} {l : Launch} {e : Env} {R : Room} {s : State} {m : MethodId} {args : Array Value} {below : List Frame} {meth : Method} {c : Code} {Q : State → Prop} {D : va_G} {B0 : Nat} {ka : Nat → Nat} {vF : Value} {md : Bool} {y n0 c0 s0 : Nat} {ad0 : Nat → Nat} {nf : Nat} {G : am_S → Prop} (hG : G = am_Go p l e R s m args below meth c Q D B0 ka vF md y n0 c0 s0 ad0 nf) (C : am_Cx p s m args c y B0 ka vF) {k : am_S → Option am_R} {r : am_R} (hk : ∀ S, k S = some r → G S) {pc nx : Nat} {L st : List am_V} {σ : am_M} {n : Nat} (hd : decode (am_by y) pc = .ok (.lxor, 1)) (hn : nx = pc + 1) (h : (am_ll st fun a b st => k (nx, L, (1, am_lxor a b) :: st, σ, n)) = some r) : G (pc, L, st, σ, n) := by
  subst hn
  obtain ⟨a, b, st', rfl, h⟩ := am_ll_some h
  refine go_rep hG C hk (us := [(1, b), (1, a)]) (vs := [(1, am_lxor a b)]) (rest := st') rfl (fun H locs cells slots ls ad cA tys P => ?_) h
  have hb := am_ok_l (P.2.2.2.2.2.1 (1, b) (by simp))
  have ha := am_ok_l (P.2.2.2.2.2.1 (1, a) (by simp))
  refine ⟨fun v hv => ?_, fun K => ?_⟩
  · rw [List.mem_singleton] at hv; subst hv; exact am_ok_1 (am_bv64 _)
  · refine lv_lxor C.1 C.2.1 hd ?_
    rw [am_l_xor]
    exact K
theorem go_ldiv {p : Program} {l : Launch} {e : Env} {R : Room} {s : State} {m : MethodId} {args : Array Value} {below : List Frame} {meth : Method} {c : Code} {Q : State → Prop} {D : va_G} {B0 : Nat} {ka : Nat → Nat} {vF : Value} {md : Bool} {y n0 c0 s0 : Nat} {ad0 : Nat → Nat} {nf : Nat} {G : am_S → Prop} (hG : G = am_Go p l e R s m args below meth c Q D B0 ka vF md y n0 c0 s0 ad0 nf) (C : am_Cx p s m args c y B0 ka vF) {k : am_S → Option am_R} {r : am_R} (hk : ∀ S, k S = some r → G S) {pc nx : Nat} {L st : List am_V} {σ : am_M} {n : Nat} (hd : decode (am_by y) pc = .ok (.ldiv, 1)) (hn : nx = pc + 1) (h : (am_ll st fun a b st => am_if (¬ b = 0) (k (nx, L, (1, am_x (Int.tdiv a b)) :: st, σ, n))) = some r) : G (pc, L, st, σ, n) := by
  subst hn
  obtain ⟨a, b, st', rfl, h⟩ := am_ll_some h
  obtain ⟨hz, h⟩ := am_if_some h
  refine go_rep hG C hk (us := [(1, b), (1, a)]) (vs := [(1, am_x (Int.tdiv a b))]) (rest := st') rfl (fun H locs cells slots ls ad cA tys P => ?_) h
  have hb := am_ok_l (P.2.2.2.2.2.1 (1, b) (by simp))
  have ha := am_ok_l (P.2.2.2.2.2.1 (1, a) (by simp))
  refine ⟨fun v hv => ?_, fun K => ?_⟩
  · rw [List.mem_singleton] at hv; subst hv; exact am_ok_1 (am_x_r _)
  · refine lv_ldiv C.1 C.2.1 hd (fun q => hz (by have := congrArg Int64.toInt q; rw [am_l_to hb] at this; exact this)) ?_
    rw [am_l_div ha hb]
    exact K
theorem go_lshl {p : Program} {l : Launch} {e : Env} {R : Room} {s : State} {m : MethodId} {args : Array Value} {below : List Frame} {meth : Method} {c : Code} {Q : State → Prop} {D : va_G} {B0 : Nat} {ka : Nat → Nat} {vF : Value} {md : Bool} {y n0 c0 s0 : Nat} {ad0 : Nat → Nat} {nf : Nat} {G : am_S → Prop} (hG : G = am_Go p l e R s m args below meth c Q D B0 ka vF md y n0 c0 s0 ad0 nf) (C : am_Cx p s m args c y B0 ka vF) {k : am_S → Option am_R} {r : am_R} (hk : ∀ S, k S = some r → G S) {pc nx : Nat} {L st : List am_V} {σ : am_M} {n : Nat} (hd : decode (am_by y) pc = .ok (.lshl, 1)) (hn : nx = pc + 1) (h : (am_li st fun a b st => k (nx, L, (1, am_lshl a b) :: st, σ, n)) = some r) : G (pc, L, st, σ, n) := by
  subst hn
  obtain ⟨a, b, st', rfl, h⟩ := am_li_some h
  refine go_rep hG C hk (us := [(0, b), (1, a)]) (vs := [(1, am_lshl a b)]) (rest := st') rfl (fun H locs cells slots ls ad cA tys P => ?_) h
  have hb := am_ok_i (P.2.2.2.2.2.1 (0, b) (by simp))
  have ha := am_ok_l (P.2.2.2.2.2.1 (1, a) (by simp))
  refine ⟨fun v hv => ?_, fun K => ?_⟩
  · rw [List.mem_singleton] at hv; subst hv; exact am_ok_1 (am_x_r _)
  · refine lv_lshl C.1 C.2.1 hd rfl ?_
    rw [am_l_shl hb]
    exact K
theorem go_lshr {p : Program} {l : Launch} {e : Env} {R : Room} {s : State} {m : MethodId} {args : Array Value} {below : List Frame} {meth : Method} {c : Code} {Q : State → Prop} {D : va_G} {B0 : Nat} {ka : Nat → Nat} {vF : Value} {md : Bool} {y n0 c0 s0 : Nat} {ad0 : Nat → Nat} {nf : Nat} {G : am_S → Prop} (hG : G = am_Go p l e R s m args below meth c Q D B0 ka vF md y n0 c0 s0 ad0 nf) (C : am_Cx p s m args c y B0 ka vF) {k : am_S → Option am_R} {r : am_R} (hk : ∀ S, k S = some r → G S) {pc nx : Nat} {L st : List am_V} {σ : am_M} {n : Nat} (hd : decode (am_by y) pc = .ok (.lshr, 1)) (hn : nx = pc + 1) (h : (am_li st fun a b st => k (nx, L, (1, am_lshr a b) :: st, σ, n)) = some r) : G (pc, L, st, σ, n) := by
  subst hn
  obtain ⟨a, b, st', rfl, h⟩ := am_li_some h
  refine go_rep hG C hk (us := [(0, b), (1, a)]) (vs := [(1, am_lshr a b)]) (rest := st') rfl (fun H locs cells slots ls ad cA tys P => ?_) h
  have hb := am_ok_i (P.2.2.2.2.2.1 (0, b) (by simp))
  have ha := am_ok_l (P.2.2.2.2.2.1 (1, a) (by simp))
  refine ⟨fun v hv => ?_, fun K => ?_⟩
  · rw [List.mem_singleton] at hv; subst hv; exact am_ok_1 (am_lshr_r ha)
  · refine lv_lshr C.1 C.2.1 hd rfl ?_
    rw [am_l_shr ha hb]
    exact K
theorem go_lushr {p : Program} {l : Launch} {e : Env} {R : Room} {s : State} {m : MethodId} {args : Array Value} {below : List Frame} {meth : Method} {c : Code} {Q : State → Prop} {D : va_G} {B0 : Nat} {ka : Nat → Nat} {vF : Value} {md : Bool} {y n0 c0 s0 : Nat} {ad0 : Nat → Nat} {nf : Nat} {G : am_S → Prop} (hG : G = am_Go p l e R s m args below meth c Q D B0 ka vF md y n0 c0 s0 ad0 nf) (C : am_Cx p s m args c y B0 ka vF) {k : am_S → Option am_R} {r : am_R} (hk : ∀ S, k S = some r → G S) {pc nx : Nat} {L st : List am_V} {σ : am_M} {n : Nat} (hd : decode (am_by y) pc = .ok (.lushr, 1)) (hn : nx = pc + 1) (h : (am_li st fun a b st => k (nx, L, (1, am_lushr a b) :: st, σ, n)) = some r) : G (pc, L, st, σ, n) := by
  subst hn
  obtain ⟨a, b, st', rfl, h⟩ := am_li_some h
  refine go_rep hG C hk (us := [(0, b), (1, a)]) (vs := [(1, am_lushr a b)]) (rest := st') rfl (fun H locs cells slots ls ad cA tys P => ?_) h
  have hb := am_ok_i (P.2.2.2.2.2.1 (0, b) (by simp))
  have ha := am_ok_l (P.2.2.2.2.2.1 (1, a) (by simp))
  refine ⟨fun v hv => ?_, fun K => ?_⟩
  · rw [List.mem_singleton] at hv; subst hv; exact am_ok_1 (am_x_r _)
  · refine lv_lushr C.1 C.2.1 hd rfl ?_
    rw [am_l_ushr hb]
    exact K
theorem go_lcmp {p : Program} {l : Launch} {e : Env} {R : Room} {s : State} {m : MethodId} {args : Array Value} {below : List Frame} {meth : Method} {c : Code} {Q : State → Prop} {D : va_G} {B0 : Nat} {ka : Nat → Nat} {vF : Value} {md : Bool} {y n0 c0 s0 : Nat} {ad0 : Nat → Nat} {nf : Nat} {G : am_S → Prop} (hG : G = am_Go p l e R s m args below meth c Q D B0 ka vF md y n0 c0 s0 ad0 nf) (C : am_Cx p s m args c y B0 ka vF) {k : am_S → Option am_R} {r : am_R} (hk : ∀ S, k S = some r → G S) {pc nx : Nat} {L st : List am_V} {σ : am_M} {n : Nat} (hd : decode (am_by y) pc = .ok (.lcmp, 1)) (hn : nx = pc + 1) (h : (am_ll st fun a b st => k (nx, L, (0, am_cmp a b) :: st, σ, n)) = some r) : G (pc, L, st, σ, n) := by
  subst hn
  obtain ⟨a, b, st', rfl, h⟩ := am_ll_some h
  refine go_rep hG C hk (us := [(1, b), (1, a)]) (vs := [(0, am_cmp a b)]) (rest := st') rfl (fun H locs cells slots ls ad cA tys P => ?_) h
  have hb := am_ok_l (P.2.2.2.2.2.1 (1, b) (by simp))
  have ha := am_ok_l (P.2.2.2.2.2.1 (1, a) (by simp))
  refine ⟨fun v hv => ?_, fun K => ?_⟩
  · rw [List.mem_singleton] at hv; subst hv; exact am_ok_0 (am_cmp_r a b)
  · refine W.lcmp C.1 C.2.1 hd ?_
    rw [am_l_cmp ha hb]
    exact K
theorem go_ineg {p : Program} {l : Launch} {e : Env} {R : Room} {s : State} {m : MethodId} {args : Array Value} {below : List Frame} {meth : Method} {c : Code} {Q : State → Prop} {D : va_G} {B0 : Nat} {ka : Nat → Nat} {vF : Value} {md : Bool} {y n0 c0 s0 : Nat} {ad0 : Nat → Nat} {nf : Nat} {G : am_S → Prop} (hG : G = am_Go p l e R s m args below meth c Q D B0 ka vF md y n0 c0 s0 ad0 nf) (C : am_Cx p s m args c y B0 ka vF) {k : am_S → Option am_R} {r : am_R} (hk : ∀ S, k S = some r → G S) {pc nx : Nat} {L st : List am_V} {σ : am_M} {n : Nat} (hd : decode (am_by y) pc = .ok (.ineg, 1)) (hn : nx = pc + 1) (h : (am_i1 st fun a st => k (nx, L, (0, am_w (-a)) :: st, σ, n)) = some r) : G (pc, L, st, σ, n) := by
  subst hn
  obtain ⟨a, st', rfl, h⟩ := am_i1_some h
  refine go_rep hG C hk (us := [(0, a)]) (vs := [(0, am_w (-a))]) (rest := st') rfl (fun H locs cells slots ls ad cA tys P => ?_) h
  have ha := am_ok_i (P.2.2.2.2.2.1 (0, a) (by simp))
  refine ⟨fun v hv => ?_, fun K => ?_⟩
  · rw [List.mem_singleton] at hv; subst hv; exact am_ok_0 (am_w_r _)
  · exact lv_ineg C.1 C.2.1 hd (by rw [am_i_neg ha]; exact K)
theorem go_lneg {p : Program} {l : Launch} {e : Env} {R : Room} {s : State} {m : MethodId} {args : Array Value} {below : List Frame} {meth : Method} {c : Code} {Q : State → Prop} {D : va_G} {B0 : Nat} {ka : Nat → Nat} {vF : Value} {md : Bool} {y n0 c0 s0 : Nat} {ad0 : Nat → Nat} {nf : Nat} {G : am_S → Prop} (hG : G = am_Go p l e R s m args below meth c Q D B0 ka vF md y n0 c0 s0 ad0 nf) (C : am_Cx p s m args c y B0 ka vF) {k : am_S → Option am_R} {r : am_R} (hk : ∀ S, k S = some r → G S) {pc nx : Nat} {L st : List am_V} {σ : am_M} {n : Nat} (hd : decode (am_by y) pc = .ok (.lneg, 1)) (hn : nx = pc + 1) (h : (am_l1 st fun a st => k (nx, L, (1, am_x (-a)) :: st, σ, n)) = some r) : G (pc, L, st, σ, n) := by
  subst hn
  obtain ⟨a, st', rfl, h⟩ := am_l1_some h
  refine go_rep hG C hk (us := [(1, a)]) (vs := [(1, am_x (-a))]) (rest := st') rfl (fun H locs cells slots ls ad cA tys P => ?_) h
  have ha := am_ok_l (P.2.2.2.2.2.1 (1, a) (by simp))
  refine ⟨fun v hv => ?_, fun K => ?_⟩
  · rw [List.mem_singleton] at hv; subst hv; exact am_ok_1 (am_x_r _)
  · exact lv_lneg C.1 C.2.1 hd (by rw [am_l_neg ha]; exact K)
theorem go_i2l {p : Program} {l : Launch} {e : Env} {R : Room} {s : State} {m : MethodId} {args : Array Value} {below : List Frame} {meth : Method} {c : Code} {Q : State → Prop} {D : va_G} {B0 : Nat} {ka : Nat → Nat} {vF : Value} {md : Bool} {y n0 c0 s0 : Nat} {ad0 : Nat → Nat} {nf : Nat} {G : am_S → Prop} (hG : G = am_Go p l e R s m args below meth c Q D B0 ka vF md y n0 c0 s0 ad0 nf) (C : am_Cx p s m args c y B0 ka vF) {k : am_S → Option am_R} {r : am_R} (hk : ∀ S, k S = some r → G S) {pc nx : Nat} {L st : List am_V} {σ : am_M} {n : Nat} (hd : decode (am_by y) pc = .ok (.i2l, 1)) (hn : nx = pc + 1) (h : (am_i1 st fun a st => k (nx, L, (1, a) :: st, σ, n)) = some r) : G (pc, L, st, σ, n) := by
  subst hn
  obtain ⟨a, st', rfl, h⟩ := am_i1_some h
  refine go_rep hG C hk (us := [(0, a)]) (vs := [(1, a)]) (rest := st') rfl (fun H locs cells slots ls ad cA tys P => ?_) h
  have ha := am_ok_i (P.2.2.2.2.2.1 (0, a) (by simp))
  refine ⟨fun v hv => ?_, fun K => ?_⟩
  · rw [List.mem_singleton] at hv; subst hv; exact am_ok_1 ⟨by have := ha.1; omega, by have := ha.2; omega⟩
  · exact lv_i2l C.1 C.2.1 hd (am_i2l ha) K
theorem go_l2i {p : Program} {l : Launch} {e : Env} {R : Room} {s : State} {m : MethodId} {args : Array Value} {below : List Frame} {meth : Method} {c : Code} {Q : State → Prop} {D : va_G} {B0 : Nat} {ka : Nat → Nat} {vF : Value} {md : Bool} {y n0 c0 s0 : Nat} {ad0 : Nat → Nat} {nf : Nat} {G : am_S → Prop} (hG : G = am_Go p l e R s m args below meth c Q D B0 ka vF md y n0 c0 s0 ad0 nf) (C : am_Cx p s m args c y B0 ka vF) {k : am_S → Option am_R} {r : am_R} (hk : ∀ S, k S = some r → G S) {pc nx : Nat} {L st : List am_V} {σ : am_M} {n : Nat} (hd : decode (am_by y) pc = .ok (.l2i, 1)) (hn : nx = pc + 1) (h : (am_l1 st fun a st => k (nx, L, (0, am_w a) :: st, σ, n)) = some r) : G (pc, L, st, σ, n) := by
  subst hn
  obtain ⟨a, st', rfl, h⟩ := am_l1_some h
  refine go_rep hG C hk (us := [(1, a)]) (vs := [(0, am_w a)]) (rest := st') rfl (fun H locs cells slots ls ad cA tys P => ?_) h
  have ha := am_ok_l (P.2.2.2.2.2.1 (1, a) (by simp))
  refine ⟨fun v hv => ?_, fun K => ?_⟩
  · rw [List.mem_singleton] at hv; subst hv; exact am_ok_0 (am_w_r _)
  · exact lv_l2i C.1 C.2.1 hd (am_l2i ha) K
theorem go_i2b {p : Program} {l : Launch} {e : Env} {R : Room} {s : State} {m : MethodId} {args : Array Value} {below : List Frame} {meth : Method} {c : Code} {Q : State → Prop} {D : va_G} {B0 : Nat} {ka : Nat → Nat} {vF : Value} {md : Bool} {y n0 c0 s0 : Nat} {ad0 : Nat → Nat} {nf : Nat} {G : am_S → Prop} (hG : G = am_Go p l e R s m args below meth c Q D B0 ka vF md y n0 c0 s0 ad0 nf) (C : am_Cx p s m args c y B0 ka vF) {k : am_S → Option am_R} {r : am_R} (hk : ∀ S, k S = some r → G S) {pc nx : Nat} {L st : List am_V} {σ : am_M} {n : Nat} (hd : decode (am_by y) pc = .ok (.i2b, 1)) (hn : nx = pc + 1) (h : (am_i1 st fun a st => k (nx, L, (0, am_w8 a) :: st, σ, n)) = some r) : G (pc, L, st, σ, n) := by
  subst hn
  obtain ⟨a, st', rfl, h⟩ := am_i1_some h
  refine go_rep hG C hk (us := [(0, a)]) (vs := [(0, am_w8 a)]) (rest := st') rfl (fun H locs cells slots ls ad cA tys P => ?_) h
  have ha := am_ok_i (P.2.2.2.2.2.1 (0, a) (by simp))
  refine ⟨fun v hv => ?_, fun K => ?_⟩
  · rw [List.mem_singleton] at hv; subst hv; exact am_ok_0 (by have := am_w8_r a; exact ⟨by omega, by omega⟩)
  · exact lv_i2b C.1 C.2.1 hd (am_i2b ha) K
theorem go_i2s {p : Program} {l : Launch} {e : Env} {R : Room} {s : State} {m : MethodId} {args : Array Value} {below : List Frame} {meth : Method} {c : Code} {Q : State → Prop} {D : va_G} {B0 : Nat} {ka : Nat → Nat} {vF : Value} {md : Bool} {y n0 c0 s0 : Nat} {ad0 : Nat → Nat} {nf : Nat} {G : am_S → Prop} (hG : G = am_Go p l e R s m args below meth c Q D B0 ka vF md y n0 c0 s0 ad0 nf) (C : am_Cx p s m args c y B0 ka vF) {k : am_S → Option am_R} {r : am_R} (hk : ∀ S, k S = some r → G S) {pc nx : Nat} {L st : List am_V} {σ : am_M} {n : Nat} (hd : decode (am_by y) pc = .ok (.i2s, 1)) (hn : nx = pc + 1) (h : (am_i1 st fun a st => k (nx, L, (0, am_w16 a) :: st, σ, n)) = some r) : G (pc, L, st, σ, n) := by
  subst hn
  obtain ⟨a, st', rfl, h⟩ := am_i1_some h
  refine go_rep hG C hk (us := [(0, a)]) (vs := [(0, am_w16 a)]) (rest := st') rfl (fun H locs cells slots ls ad cA tys P => ?_) h
  have ha := am_ok_i (P.2.2.2.2.2.1 (0, a) (by simp))
  refine ⟨fun v hv => ?_, fun K => ?_⟩
  · rw [List.mem_singleton] at hv; subst hv; exact am_ok_0 (by have := am_w16_r a; exact ⟨by omega, by omega⟩)
  · exact lv_i2s C.1 C.2.1 hd (am_i2s ha) K
theorem go_i2c {p : Program} {l : Launch} {e : Env} {R : Room} {s : State} {m : MethodId} {args : Array Value} {below : List Frame} {meth : Method} {c : Code} {Q : State → Prop} {D : va_G} {B0 : Nat} {ka : Nat → Nat} {vF : Value} {md : Bool} {y n0 c0 s0 : Nat} {ad0 : Nat → Nat} {nf : Nat} {G : am_S → Prop} (hG : G = am_Go p l e R s m args below meth c Q D B0 ka vF md y n0 c0 s0 ad0 nf) (C : am_Cx p s m args c y B0 ka vF) {k : am_S → Option am_R} {r : am_R} (hk : ∀ S, k S = some r → G S) {pc nx : Nat} {L st : List am_V} {σ : am_M} {n : Nat} (hd : decode (am_by y) pc = .ok (.i2c, 1)) (hn : nx = pc + 1) (h : (am_i1 st fun a st => k (nx, L, (0, a % 65536) :: st, σ, n)) = some r) : G (pc, L, st, σ, n) := by
  subst hn
  obtain ⟨a, st', rfl, h⟩ := am_i1_some h
  refine go_rep hG C hk (us := [(0, a)]) (vs := [(0, a % 65536)]) (rest := st') rfl (fun H locs cells slots ls ad cA tys P => ?_) h
  have ha := am_ok_i (P.2.2.2.2.2.1 (0, a) (by simp))
  refine ⟨fun v hv => ?_, fun K => ?_⟩
  · rw [List.mem_singleton] at hv; subst hv; exact am_ok_0 ⟨by omega, by omega⟩
  · exact lv_i2c C.1 C.2.1 hd (am_i2c ha) K
theorem go_dup {p : Program} {l : Launch} {e : Env} {R : Room} {s : State} {m : MethodId} {args : Array Value} {below : List Frame} {meth : Method} {c : Code} {Q : State → Prop} {D : va_G} {B0 : Nat} {ka : Nat → Nat} {vF : Value} {md : Bool} {y n0 c0 s0 : Nat} {ad0 : Nat → Nat} {nf : Nat} {G : am_S → Prop} (hG : G = am_Go p l e R s m args below meth c Q D B0 ka vF md y n0 c0 s0 ad0 nf) (C : am_Cx p s m args c y B0 ka vF) {k : am_S → Option am_R} {r : am_R} (hk : ∀ S, k S = some r → G S) {pc nx : Nat} {L st : List am_V} {σ : am_M} {n : Nat} (hF : vF.category = 1) (hd : decode (am_by y) pc = .ok (.dup, 1)) (hn : nx = pc + 1) (h : (am_v1 st fun t z st => bif Nat.beq t 1 then none else k (nx, L, (t, z) :: (t, z) :: st, σ, n)) = some r) : G (pc, L, st, σ, n) := by
  subst hn
  obtain ⟨t, z, st', rfl, h⟩ := am_v1_some h
  obtain ⟨hb, h⟩ := am_bif_none h
  refine go_rep hG C hk (us := [(t, z)]) (vs := [(t, z), (t, z)]) (rest := st') rfl (fun H locs cells slots ls ad cA tys P => ⟨fun v hv => ?_, fun K => ?_⟩) h
  · have hv' : v = (t, z) := by simpa using hv
    subst hv'; exact P.2.2.2.2.2.1 _ (by simp)
  · exact lv_dup C.1 C.2.1 hd (by rw [am_cv_cat hF]; show (bif Nat.beq t 1 then 2 else 1) = 1; rw [hb]; rfl) K
theorem go_dup2 {p : Program} {l : Launch} {e : Env} {R : Room} {s : State} {m : MethodId} {args : Array Value} {below : List Frame} {meth : Method} {c : Code} {Q : State → Prop} {D : va_G} {B0 : Nat} {ka : Nat → Nat} {vF : Value} {md : Bool} {y n0 c0 s0 : Nat} {ad0 : Nat → Nat} {nf : Nat} {G : am_S → Prop} (hG : G = am_Go p l e R s m args below meth c Q D B0 ka vF md y n0 c0 s0 ad0 nf) (C : am_Cx p s m args c y B0 ka vF) {k : am_S → Option am_R} {r : am_R} (hk : ∀ S, k S = some r → G S) {pc nx : Nat} {L st : List am_V} {σ : am_M} {n : Nat} (hF : vF.category = 1) (hd : decode (am_by y) pc = .ok (.dup2, 1)) (hn : nx = pc + 1) (h : (am_v1 st fun t z st => am_v1 st fun u w st => bif Nat.beq t 1 || Nat.beq u 1 then none else k (nx, L, (t, z) :: (u, w) :: (t, z) :: (u, w) :: st, σ, n)) = some r) : G (pc, L, st, σ, n) := by
  subst hn
  obtain ⟨t, z, st1, e1, h1⟩ := am_v1_some h
  obtain ⟨u, w, st', e2, h2⟩ := am_v1_some h1
  obtain ⟨hb, h3⟩ := am_bif_none h2
  subst e1 e2
  rw [Bool.or_eq_false_iff] at hb
  refine go_rep hG C hk (us := [(t, z), (u, w)]) (vs := [(t, z), (u, w), (t, z), (u, w)]) (rest := st') rfl (fun H locs cells slots ls ad cA tys P => ⟨fun v hv => ?_, fun K => ?_⟩) h3
  · have hv' : v = (t, z) ∨ v = (u, w) ∨ v = (t, z) ∨ v = (u, w) := by simpa using hv
    rcases hv' with rfl | rfl | rfl | rfl <;> exact P.2.2.2.2.2.1 _ (by simp)
  · exact lv_dup2_11 C.1 C.2.1 hd (by rw [am_cv_cat hF]; show (bif Nat.beq t 1 then 2 else 1) = 1; rw [hb.1]; rfl) (by rw [am_cv_cat hF]; show (bif Nat.beq u 1 then 2 else 1) = 1; rw [hb.2]; rfl) K
theorem go_pop {p : Program} {l : Launch} {e : Env} {R : Room} {s : State} {m : MethodId} {args : Array Value} {below : List Frame} {meth : Method} {c : Code} {Q : State → Prop} {D : va_G} {B0 : Nat} {ka : Nat → Nat} {vF : Value} {md : Bool} {y n0 c0 s0 : Nat} {ad0 : Nat → Nat} {nf : Nat} {G : am_S → Prop} (hG : G = am_Go p l e R s m args below meth c Q D B0 ka vF md y n0 c0 s0 ad0 nf) (C : am_Cx p s m args c y B0 ka vF) {k : am_S → Option am_R} {r : am_R} (hk : ∀ S, k S = some r → G S) {pc nx : Nat} {L st : List am_V} {σ : am_M} {n : Nat} (hF : vF.category = 1) (hd : decode (am_by y) pc = .ok (.pop, 1)) (hn : nx = pc + 1) (h : (am_v1 st fun t _ st => bif Nat.beq t 1 then none else k (nx, L, st, σ, n)) = some r) : G (pc, L, st, σ, n) := by
  subst hn
  obtain ⟨t, z, st', rfl, h⟩ := am_v1_some h
  obtain ⟨hb, h⟩ := am_bif_none h
  refine go_rep hG C hk (us := [(t, z)]) (vs := []) (rest := st') rfl (fun H locs cells slots ls ad cA tys P => ⟨fun v hv => ?_, fun K => ?_⟩) h
  · cases hv
  · exact lv_pop C.1 C.2.1 hd (by rw [am_cv_cat hF]; show (bif Nat.beq t 1 then 2 else 1) = 1; rw [hb]; rfl) K
theorem go_pop2 {p : Program} {l : Launch} {e : Env} {R : Room} {s : State} {m : MethodId} {args : Array Value} {below : List Frame} {meth : Method} {c : Code} {Q : State → Prop} {D : va_G} {B0 : Nat} {ka : Nat → Nat} {vF : Value} {md : Bool} {y n0 c0 s0 : Nat} {ad0 : Nat → Nat} {nf : Nat} {G : am_S → Prop} (hG : G = am_Go p l e R s m args below meth c Q D B0 ka vF md y n0 c0 s0 ad0 nf) (C : am_Cx p s m args c y B0 ka vF) {k : am_S → Option am_R} {r : am_R} (hk : ∀ S, k S = some r → G S) {pc nx : Nat} {L st : List am_V} {σ : am_M} {n : Nat} (hd : decode (am_by y) pc = .ok (.pop2, 1)) (hn : nx = pc + 1) (h : (am_l1 st fun _ st => k (nx, L, st, σ, n)) = some r) : G (pc, L, st, σ, n) := by
  subst hn
  obtain ⟨z, st', rfl, h⟩ := am_l1_some h
  refine go_rep hG C hk (us := [(1, z)]) (vs := []) (rest := st') rfl (fun H locs cells slots ls ad cA tys P => ⟨fun v hv => ?_, fun K => ?_⟩) h
  · cases hv
  · exact lv_pop2_2 C.1 C.2.1 hd rfl K
