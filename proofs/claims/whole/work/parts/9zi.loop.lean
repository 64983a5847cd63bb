/-! THE LAW'S BODY: start, loop, end -/
theorem r_new {ls : Array Slot} {p : Program} {l : Launch} {e : Env} {R : Room} {s : State} {m : MethodId} {args : Array Value} {below : List Frame} {meth : Method} {c : Code} {Q : State → Prop} {D : va_G} {B0 : Nat} {ka : Nat → Nat} {vF : Value} {md : Bool} {n0 c0 s0 : Nat} {ad0 : Nat → Nat} {nf : Nat} {G : am_S → Prop} (hG : G = la_Go ls p l e R s m args below meth c Q D B0 ka vF md 277 n0 c0 s0 ad0 nf) (C : am_Cx p s m args c 277 B0 ka vF) {pc nx : Nat} {L st : List am_V} {σ : am_M} {n : Nat} {d : Nat} (hR : am_Rm R d c0 s0 n0 nf) {j : Nat} {x : Nat × Nat × Nat × Nat} {w : Option (List Bool)} (hc : am_code 277 pc = some (.new j, nx, x, w)) (hm : (!md && Nat.beq (am_tag n) (100 + x.1)) = true) (g : G (nx, L, (100 + x.1, (n : Int)) :: st, am_new σ n, n + 1)) : G (pc, L, st, σ, n) := by
  obtain ⟨h1, h2, h3⟩ := la_dec hc rfl
  exact la_new hG C la_kt hR h1 h2 h3 (by rw [hm]; exact la_kp g)
theorem r_dup {ls : Array Slot} {p : Program} {l : Launch} {e : Env} {R : Room} {s : State} {m : MethodId} {args : Array Value} {below : List Frame} {meth : Method} {c : Code} {Q : State → Prop} {D : va_G} {B0 : Nat} {ka : Nat → Nat} {vF : Value} {md : Bool} {n0 c0 s0 : Nat} {ad0 : Nat → Nat} {nf : Nat} {G : am_S → Prop} (hG : G = la_Go ls p l e R s m args below meth c Q D B0 ka vF md 277 n0 c0 s0 ad0 nf) (C : am_Cx p s m args c 277 B0 ka vF) {pc nx : Nat} {L st : List am_V} {σ : am_M} {n : Nat} {t : Nat} {z : Int} {x : Nat × Nat × Nat × Nat} {w : Option (List Bool)} (hc : am_code 277 pc = some (.dup, nx, x, w)) (hb : Nat.beq t 1 = false) (g : G (nx, L, (t, z) :: (t, z) :: st, σ, n)) : G (pc, L, (t, z) :: st, σ, n) := by
  obtain ⟨h1, h2, -⟩ := la_dec hc rfl
  exact la_dup hG C la_kt (am_hF C) h1 h2 (show (bif Nat.beq t 1 then none else la_k G (nx, L, (t, z) :: (t, z) :: st, σ, n)) = some la_r by rw [hb]; exact la_kp g)
theorem r_init {ls : Array Slot} {p : Program} {l : Launch} {e : Env} {R : Room} {s : State} {m : MethodId} {args : Array Value} {below : List Frame} {meth : Method} {c : Code} {Q : State → Prop} {D : va_G} {B0 : Nat} {ka : Nat → Nat} {vF : Value} {md : Bool} {n0 c0 s0 : Nat} {ad0 : Nat → Nat} {nf : Nat} {G : am_S → Prop} (hG : G = la_Go ls p l e R s m args below meth c Q D B0 ka vF md 277 n0 c0 s0 ad0 nf) (C : am_Cx p s m args c 277 B0 ka vF) {pc nx : Nat} {L st : List am_V} {σ : am_M} {n : Nat} {d : Nat} (hR : am_Rm R d c0 s0 n0 nf) {j : Nat} {x : Nat × Nat × Nat × Nat} {w : Option (List Bool)} {as rest : List am_V} {z : Int} {σ1 : am_M} {n1 : Nat} (hc : am_code 277 pc = some (.invokespecial j, nx, x, w)) (h5 : Nat.beq x.2.2.1 5 = false) (hdo : ∀ kk : List am_V → am_M → Nat → Option am_R, am_do (am_cal md d) x.1 x.2.1 9 (fun t => Nat.beq t x.2.2.2) st kk σ n = (am_cal md d x.1 as σ n).bind fun q => kk rest q.2.1 q.2.2) (h : am_cal md d x.1 as σ n = some (z, σ1, n1)) (g : G (nx, L, rest, σ1, n1)) : G (pc, L, st, σ, n) := by
  obtain ⟨h1, h2, h3⟩ := la_dec hc rfl
  have hx : (!Nat.beq x.2.1 99 && (Nat.beq x.2.1 99 || (bif Nat.beq x.2.2.1 5 then am_okc (am_own 277) j 0 5 else (am_okc (am_own 277) j x.1 2 || am_okc (am_own 277) j x.1 4) && Nat.blt x.1 278 && Nat.beq (am_npar x.1 + 1) x.2.1 && Nat.beq (am_rk x.1) 9 && Nat.blt (am_own x.1) 11 && Nat.beq x.2.2.2 (100 + am_own x.1) && am_ini x.1))) = true := h3
  rw [Bool.and_eq_true] at hx
  obtain ⟨h99, hx⟩ := hx
  rw [am_beq_n (am_n99 h99), Bool.false_or, h5] at hx
  refine la_init hG C la_kt (d := d) (call := am_cal md d) (fun y' hy' as' σ' n' q' hq' => ?_) hR h1 h2 (am_276i (am_y_own 277 (by decide)).1 hx) ?_
  · cases d with
    | zero => cases hq'
    | succ d => exact ⟨d, rfl, am_run_ok hy' hq'⟩
  · rw [hdo, h]
    exact la_kp g
theorem la_ok4 {n : Nat} {a b c d : am_V} (ha : a.1 ≠ 9 → am_ok n a) (hb : b.1 ≠ 9 → am_ok n b) (hc : c.1 ≠ 9 → am_ok n c) (hd : d.1 ≠ 9 → am_ok n d) : ∀ (i : Nat) (v : am_V), [a, b, c, d][i]? = some v → v.1 ≠ 9 → am_ok n v := by
  intro i v hv
  have h := List.mem_of_getElem? hv
  simp only [List.mem_cons, List.not_mem_nil, or_false] at h
  rcases h with q | q | q | q <;> subst q <;> assumption
theorem la_no9 {n : Nat} {z : Int} (h : ((9, z) : am_V).1 ≠ 9) : am_ok n (9, z) := absurd rfl h
theorem mx_Inv_n {t n : Nat} {σ : am_M} (h : mx_Inv t n σ) : n ≤ 144 := by
  rcases h.2.2.2.2.2.2.2.2.1 with q | q
  · rw [q.2.2]; decide
  · rw [q.2.2.1]; exact Nat.le_refl _
theorem la_d1681 : decode (am_by 277) 1681 = .ok (.iinc 3 6, 3) := (la_dec (nx := 1684) (x := (0, 0, 0, 0)) (w := none) rfl rfl).1
theorem la_d1684 : decode (am_by 277) 1684 = .ok (.goto (-1666), 3) := (la_dec (nx := 1687) (x := (18, 0, 0, 0)) (w := none) rfl rfl).1
theorem la_d7 : decode (am_by 277) 7 = .ok (.astore_n 1, 1) := (la_dec (nx := 8) (x := (0, 0, 0, 0)) (w := none) rfl rfl).1
theorem la_d15 : decode (am_by 277) 15 = .ok (.astore_n 2, 1) := (la_dec (nx := 16) (x := (0, 0, 0, 0)) (w := none) rfl rfl).1
theorem la_d16 : decode (am_by 277) 16 = .ok (.iconst 0, 1) := (la_dec (nx := 17) (x := (0, 0, 0, 0)) (w := none) rfl rfl).1
theorem la_d17 : decode (am_by 277) 17 = .ok (.istore_n 3, 1) := (la_dec (nx := 18) (x := (0, 0, 0, 0)) (w := none) rfl rfl).1
theorem la_loop {p : Program} {l : Launch} {e : Env} {R : Room} {s : State} {m : MethodId} {args : Array Value} {below : List Frame} {meth : Method} {c : Code} {Q : State → Prop} {D : va_G} {B0 : Nat} {ka : Nat → Nat} {vF : Value} {ad0 : Nat → Nat} {b Ls : Nat} {xs : Nat → Int32} (C : am_Cx p s m args c 277 B0 ka vF) (hR : am_Rm R 150 0 0 0 144) (hX : va_X b Ls xs s s.heap) (hbl : b < s.heap.size) (hB : B0 = s.heap.size) (hL : Ls ≤ 3072) (hend : ∀ (H : Heap) (locs : List Loc) (cells slots : Nat) (ls : Array Slot), (∀ q ∈ locs, B0 ≤ q.base) → cells ≤ 144 → slots ≤ am_sz 144 → W p l e R s m args below meth c H locs cells slots Q (F0 m 1688 ls [.int 1])) : ∀ (f t : Nat), Ls < 6 * t + 6 + 6 * f → 6 * t ≤ Ls → ∀ (σ : am_M) (n : Nat), mx_Inv t n σ → ∀ (H : Heap) (locs : List Loc) (cells slots : Nat) (ls : Array Slot) (ad cA : Nat → Nat) (tys : List (ClassId × FieldType)), ls[0]? = some (.val (.ref b)) → am_Pt s D B0 ka vF true 277 0 0 0 ad0 ls (la_L (6 * t)) [] σ n H locs cells slots ad cA tys → W p l e R s m args below meth c H locs cells slots Q (F0 m 18 ls []) := by
  intro f
  induction f with
  | zero =>
    intro t hf ht σ n hI H locs cells slots ls ad cA tys h0 P
    have hn := mx_Inv_n hI
    refine (?_ : la_Go ls p l e R s m args below meth c Q D B0 ka vF true 277 0 0 0 ad0 144 (18, la_L (6 * t), [], σ, n)).2 H locs cells slots ad cA tys P
    refine r_iload rfl C (j := 3) (z := ((6 * t : Nat) : Int)) (nx := 19) (x := (0, 0, 0, 0)) (w := some [true, true, true, true]) rfl (fun _ => rfl) ?_
    refine r_len rfl C hX hbl hB h0 hL (nx := 21) ⟨rfl, rfl⟩ rfl ?_
    refine r_bipush rfl C (z := 6) (nx := 23) (x := (0, 0, 0, 0)) (w := none) rfl rfl ?_
    refine r_isub rfl C (nx := 24) (x := (0, 0, 0, 0)) (w := none) rfl ?_
    rw [mx_w_id (z := (Ls : Int) - 6) (by omega) (by omega)]
    refine r_gt rfl C (q := 1663) (nx := 27) (x := (1687, 0, 0, 0)) (w := none) rfl (fun h => ?_) (fun h => ?_)
    · refine r_iconst rfl C (z := 1) (nx := 1688) (x := (0, 0, 0, 0)) (w := none) rfl rfl ?_
      refine ⟨hn, fun H locs cells slots ad cA tys P => ?_⟩
      have hn' : n ≤ 144 := hn
      exact hend H locs cells slots ls P.1.2.2 (by have : cells = 0 + (n - 0) := P.2.2.2.2.2.2.2.2.1; omega) (by have : slots = 0 + (am_sz n - am_sz 0) := P.2.2.2.2.2.2.2.2.2; have := am_sz_mono hn'; omega)
    · exact absurd h (by omega)
  | succ f ih =>
    intro t hf ht σ n hI H locs cells slots ls ad cA tys h0 P
    have hn := mx_Inv_n hI
    refine (?_ : la_Go ls p l e R s m args below meth c Q D B0 ka vF true 277 0 0 0 ad0 144 (18, la_L (6 * t), [], σ, n)).2 H locs cells slots ad cA tys P
    refine r_iload rfl C (j := 3) (z := ((6 * t : Nat) : Int)) (nx := 19) (x := (0, 0, 0, 0)) (w := some [true, true, true, true]) rfl (fun _ => rfl) ?_
    refine r_len rfl C hX hbl hB h0 hL (nx := 21) ⟨rfl, rfl⟩ rfl ?_
    refine r_bipush rfl C (z := 6) (nx := 23) (x := (0, 0, 0, 0)) (w := none) rfl rfl ?_
    refine r_isub rfl C (nx := 24) (x := (0, 0, 0, 0)) (w := none) rfl ?_
    rw [mx_w_id (z := (Ls : Int) - 6) (by omega) (by omega)]
    refine r_gt rfl C (q := 1663) (nx := 27) (x := (1687, 0, 0, 0)) (w := none) rfl (fun h => ?_) (fun h => ?_)
    · refine r_iconst rfl C (z := 1) (nx := 1688) (x := (0, 0, 0, 0)) (w := none) rfl rfl ?_
      refine ⟨hn, fun H locs cells slots ad cA tys P => ?_⟩
      have hn' : n ≤ 144 := hn
      exact hend H locs cells slots ls P.1.2.2 (by have : cells = 0 + (n - 0) := P.2.2.2.2.2.2.2.2.1; omega) (by have : slots = 0 + (am_sz n - am_sz 0) := P.2.2.2.2.2.2.2.2.2; have := am_sz_mono hn'; omega)
    · have hi : 6 * t + 6 ≤ Ls := by omega
      have ht2 : t < 1000 := by omega
      refine r_arg0 rfl C hX hbl hB h0 hL (by omega) (nx := 30) ⟨rfl, rfl, rfl⟩ rfl ?_
      refine r_bipush rfl C (z := 63) (nx := 32) (x := (0, 0, 0, 0)) (w := none) rfl rfl ?_
      refine r_iand rfl C (nx := 33) (x := (0, 0, 0, 0)) (w := none) rfl ?_
      have gn : ∀ (σ' : am_M) (n' : Nat), mx_Inv (t + 1) n' σ' → la_Go ls p l e R s m args below meth c Q D B0 ka vF true 277 0 0 0 ad0 144 (1681, la_L (6 * t), [], σ', n') := by
        intro σ' n' hI'
        refine ⟨mx_Inv_n hI', fun H locs cells slots ad cA tys P => ?_⟩
        obtain ⟨p1, p2, p3, p4, p5, p6, p7⟩ := P
        have hl : lv_has ls 4 [(0, .ref b), (1, .ref (ad 0)), (2, .ref (ad 82)), (3, .int (Int32.ofInt ((6 * t : Nat) : Int)))] := by
          refine ⟨p3.1, p3.2.1, fun q hq => ?_⟩
          rcases List.mem_cons.mp hq with e | hq
          · rw [e]; exact h0
          · exact p3.2.2 q hq
        refine lv_iinc (k := 3) (v := Int32.ofInt ((6 * (t + 1) : Nat) : Int)) (lv' := [(3, .int (Int32.ofInt ((6 * (t + 1) : Nat) : Int))), (0, .ref b), (1, .ref (ad 0)), (2, .ref (ad 82))]) C.1 C.2.1 la_d1681 hl rfl (la_add (6 * t) 6) (by decide) rfl (fun ls' h' => ?_)
        refine lv_goto C.1 C.2.1 la_d1684 (tgt := 18) (by omega) ?_
        refine ih (t + 1) (by omega) (by omega) σ' n' hI' H locs cells slots ls' ad cA tys (lv_at h' 1 rfl) ⟨p1, p2, lv_sub h' [2, 3, 0] rfl, rfl, la_ok4 la_no9 (fun _ => p5 1 (109, 0) rfl (by decide)) (fun _ => p5 2 (110, 82) rfl (by decide)) (fun _ => am_ok_0 ⟨by omega, by omega⟩), fun v hv => absurd hv List.not_mem_nil, p7⟩
      refine r_sw rfl C (nx := 220) (x := (0, 0, 0, 0)) (w := none) rfl ?_
      exact List.forall_mem_cons.mpr ⟨la_c0 rfl C hR hX hbl hB h0 hL hi hI ht2 gn, List.forall_mem_cons.mpr ⟨la_c1 rfl C hR hX hbl hB h0 hL hi hI ht2 gn, List.forall_mem_cons.mpr ⟨la_c2 rfl C hR hX hbl hB h0 hL hi hI ht2 gn, List.forall_mem_cons.mpr ⟨la_c3 rfl C hR hX hbl hB h0 hL hi hI ht2 gn, List.forall_mem_cons.mpr ⟨la_c4 rfl C hR hX hbl hB h0 hL hi hI ht2 gn, List.forall_mem_cons.mpr ⟨la_c5 rfl C hR hX hbl hB h0 hL hi hI ht2 gn, List.forall_mem_cons.mpr ⟨la_c6 rfl C hR hX hbl hB h0 hL hi hI ht2 gn, List.forall_mem_cons.mpr ⟨la_c7 rfl C hR hX hbl hB h0 hL hi hI ht2 gn, List.forall_mem_cons.mpr ⟨la_c8 rfl C hR hX hbl hB h0 hL hi hI ht2 gn, List.forall_mem_cons.mpr ⟨la_c9 rfl C hR hX hbl hB h0 hL hi hI ht2 gn, List.forall_mem_cons.mpr ⟨la_c10 rfl C hR hX hbl hB h0 hL hi hI ht2 gn, List.forall_mem_cons.mpr ⟨la_c11 rfl C hR hX hbl hB h0 hL hi hI ht2 gn, List.forall_mem_cons.mpr ⟨la_c12 rfl C hR hX hbl hB h0 hL hi hI ht2 gn, List.forall_mem_cons.mpr ⟨la_c13 rfl C hR hX hbl hB h0 hL hi hI ht2 gn, List.forall_mem_cons.mpr ⟨la_c14 rfl C hR hX hbl hB h0 hL hi hI ht2 gn, List.forall_mem_cons.mpr ⟨la_c15 rfl C hR hX hbl hB h0 hL hi hI ht2 gn, List.forall_mem_cons.mpr ⟨la_c16 rfl C hR hX hbl hB h0 hL hi hI ht2 gn, List.forall_mem_cons.mpr ⟨la_c17 rfl C hR hX hbl hB h0 hL hi hI ht2 gn, List.forall_mem_cons.mpr ⟨la_c18 rfl C hR hX hbl hB h0 hL hi hI ht2 gn, List.forall_mem_cons.mpr ⟨la_c19 rfl C hR hX hbl hB h0 hL hi hI ht2 gn, List.forall_mem_cons.mpr ⟨la_c20 rfl C hR hX hbl hB h0 hL hi hI ht2 gn, List.forall_mem_cons.mpr ⟨la_c21 rfl C hR hX hbl hB h0 hL hi hI ht2 gn, List.forall_mem_cons.mpr ⟨la_c22 rfl C hR hX hbl hB h0 hL hi hI ht2 gn, List.forall_mem_cons.mpr ⟨la_c23 rfl C hR hX hbl hB h0 hL hi hI ht2 gn, List.forall_mem_cons.mpr ⟨la_c24 rfl C hR hX hbl hB h0 hL hi hI ht2 gn, List.forall_mem_cons.mpr ⟨la_c25 rfl C hR hX hbl hB h0 hL hi hI ht2 gn, List.forall_mem_cons.mpr ⟨la_c26 rfl C hR hX hbl hB h0 hL hi hI ht2 gn, List.forall_mem_cons.mpr ⟨la_c27 rfl C hR hX hbl hB h0 hL hi hI ht2 gn, List.forall_mem_cons.mpr ⟨la_c28 rfl C hR hX hbl hB h0 hL hi hI ht2 gn, List.forall_mem_cons.mpr ⟨la_c29 rfl C hR hX hbl hB h0 hL hi hI ht2 gn, List.forall_mem_cons.mpr ⟨la_c30 rfl C hR hX hbl hB h0 hL hi hI ht2 gn, List.forall_mem_cons.mpr ⟨la_c31 rfl C hR hX hbl hB h0 hL hi hI ht2 gn, List.forall_mem_cons.mpr ⟨la_c32 rfl C hR hX hbl hB h0 hL hi hI ht2 gn, List.forall_mem_cons.mpr ⟨la_c33 rfl C hR hX hbl hB h0 hL hi hI ht2 gn, List.forall_mem_cons.mpr ⟨la_c34 rfl C hR hX hbl hB h0 hL hi hI ht2 gn, List.forall_mem_cons.mpr ⟨la_c35 rfl C hR hX hbl hB h0 hL hi hI ht2 gn, List.forall_mem_cons.mpr ⟨la_c36 rfl C hR hX hbl hB h0 hL hi hI ht2 gn, List.forall_mem_cons.mpr ⟨la_c37 rfl C hR hX hbl hB h0 hL hi hI ht2 gn, List.forall_mem_cons.mpr ⟨la_c38 rfl C hR hX hbl hB h0 hL hi hI ht2 gn, List.forall_mem_cons.mpr ⟨la_c39 rfl C hR hX hbl hB h0 hL hi hI ht2 gn, List.forall_mem_cons.mpr ⟨la_c40 rfl C hR hX hbl hB h0 hL hi hI ht2 gn, List.forall_mem_cons.mpr ⟨la_c41 rfl C hR hX hbl hB h0 hL hi hI ht2 gn, List.forall_mem_cons.mpr ⟨la_c42 rfl C hR hX hbl hB h0 hL hi hI ht2 gn, List.forall_mem_cons.mpr ⟨gn σ n (mx_Inv_S hI), fun _ h => absurd h List.not_mem_nil⟩⟩⟩⟩⟩⟩⟩⟩⟩⟩⟩⟩⟩⟩⟩⟩⟩⟩⟩⟩⟩⟩⟩⟩⟩⟩⟩⟩⟩⟩⟩⟩⟩⟩⟩⟩⟩⟩⟩⟩⟩⟩⟩⟩
theorem la_begin {p : Program} {l : Launch} {e : Env} {R : Room} {s : State} {m : MethodId} {args : Array Value} {below : List Frame} {meth : Method} {c : Code} {Q : State → Prop} {D : va_G} {B0 : Nat} {ka : Nat → Nat} {vF : Value} {b Ls : Nat} {xs : Nat → Int32} (C : am_Cx p s m args c 277 B0 ka vF) (hR : am_Rm R 150 0 0 0 144) (hX : va_X b Ls xs s s.heap) (hbl : b < s.heap.size) (hB : B0 = s.heap.size) (hL : Ls ≤ 3072) (hend : ∀ (H : Heap) (locs : List Loc) (cells slots : Nat) (ls : Array Slot), (∀ q ∈ locs, B0 ≤ q.base) → cells ≤ 144 → slots ≤ am_sz 144 → W p l e R s m args below meth c H locs cells slots Q (F0 m 1688 ls [.int 1])) (hK : va_K D am_cl [] s) {ls : Array Slot} (hl : lv_has ls 4 [(0, .ref b)]) : W p l e R s m args below meth c s.heap [] 0 0 Q (F0 m 0 ls []) := by
  have hR11 : am_Rm R 11 0 0 0 144 := by
    obtain ⟨r1, r2, r3, r4⟩ := hR
    exact ⟨r1, r2, by omega, by omega⟩
  have P0 : am_Pt s D B0 ka vF false 277 0 0 0 (fun _ => 0) ls [(9, 0), (9, 0), (9, 0), (9, 0)] [] am_o0 0 s.heap [] 0 0 (fun _ => 0) (fun _ => 0) [] := by
    have hw : am_ws ka vF (fun _ => 0) (fun _ => 0) am_o0 0 = [] := rfl
    have e1 : va_P D am_cl (am_ws ka vF (fun _ => 0) (fun _ => 0) am_o0 0) s.heap := by
      rw [hw]
      exact fun k q h => by simp at h
    have e2 : va_D (fun q => B0 ≤ q) (am_ws ka vF (fun _ => 0) (fun _ => 0) am_o0 0) := by
      rw [hw]
      exact ⟨fun i j p q h => by simp at h, fun k q h => by simp at h⟩
    exact ⟨va_S.rf, ⟨e1, e2, hK, fun i hi => absurd hi (Nat.not_lt_zero _), fun i j hi => absurd hi (Nat.not_lt_zero _), fun h => (by cases h), by decide⟩, ⟨hl.1, hl.2.1, fun q hq => (by cases hq)⟩, rfl, la_ok4 la_no9 la_no9 la_no9 la_no9, fun v hv => absurd hv List.not_mem_nil, Nat.le_refl _, fun _ _ => rfl, rfl, rfl⟩
  refine (?_ : la_Go ls p l e R s m args below meth c Q D B0 ka vF false 277 0 0 0 (fun _ => 0) 144 (0, [(9, 0), (9, 0), (9, 0), (9, 0)], [], am_o0, 0)).2 _ _ _ _ _ _ _ P0
  refine r_new rfl C hR11 (j := 7) (nx := 3) (x := (9, 13, 0, 0)) (w := none) rfl rfl ?_
  refine r_dup rfl C (nx := 4) (x := (0, 0, 0, 0)) (w := none) rfl rfl ?_
  refine r_init rfl C hR11 (j := 9) (nx := 7) (x := (10, 1, 0, 109)) (w := none) (as := [(109, 0)]) (rest := [(109, 0)]) (z := 0) (σ1 := am_ib19) (n1 := 82) rfl rfl (fun _ => rfl) (show am_cal false (10 + 1) 10 [(109, 0)] am_ia0 1 = some (0, am_ib19, 82) from am_run_iff.mpr ⟨1500, am_init1⟩) ?_
  refine ⟨by decide, fun H locs cells slots ad cA tys P => ?_⟩
  obtain ⟨p1, p2, p3, p4, p5, p6, p7⟩ := P
  have hl0 : ls[0]? = some (.val (.ref b)) := lv_at hl 0 rfl
  have hl1 : lv_has ls 4 [(0, .ref b)] := hl
  refine lv_astore_n (x := ad 0) (lv' := [(1, .ref (ad 0)), (0, .ref b)]) C.1 C.2.1 la_d7 rfl hl1 (by decide) rfl (fun ls1 hm1 => ?_)
  have P1 : am_Pt s D B0 ka vF false 277 0 0 0 (fun _ => 0) ls1 [(9, 0), (109, 0), (9, 0), (9, 0)] [] am_ib19 82 H locs cells slots ad cA tys := by
    exact ⟨p1, p2, lv_sub hm1 [0] rfl, rfl, la_ok4 la_no9 (fun _ => p6 _ List.mem_cons_self) la_no9 la_no9, fun v hv => absurd hv List.not_mem_nil, p7⟩
  refine (?_ : la_Go ls1 p l e R s m args below meth c Q D B0 ka vF false 277 0 0 0 (fun _ => 0) 144 (8, [(9, 0), (109, 0), (9, 0), (9, 0)], [], am_ib19, 82)).2 _ _ _ _ _ _ _ P1
  refine r_new rfl C hR11 (j := 10) (nx := 11) (x := (10, 79, 0, 0)) (w := none) rfl rfl ?_
  refine r_dup rfl C (nx := 12) (x := (0, 0, 0, 0)) (w := none) rfl rfl ?_
  refine r_init rfl C hR11 (j := 12) (nx := 15) (x := (11, 1, 0, 110)) (w := none) (as := [(110, 82)]) (rest := [(110, 82)]) (z := 0) (σ1 := am_id10) (n1 := 141) rfl rfl (fun _ => rfl) (show am_cal false (10 + 1) 11 [(110, 82)] am_ic0 83 = some (0, am_id10, 141) from am_run_iff.mpr ⟨1500, am_init2⟩) ?_
  refine ⟨by decide, fun H locs cells slots ad cA tys P => ?_⟩
  obtain ⟨p1, p2, p3, p4, p5, p6, p7⟩ := P
  have hl2 : lv_has ls1 4 [(1, .ref (ad 0)), (0, .ref b)] := by
    refine ⟨p3.1, p3.2.1, fun q hq => ?_⟩
    rcases List.mem_cons.mp hq with e | hq
    · rw [e]; exact p3.2.2 (1, .ref (ad 0)) List.mem_cons_self
    · rw [List.mem_singleton.mp hq]; exact lv_at hm1 1 rfl
  refine lv_astore_n (x := ad 82) (lv' := [(2, .ref (ad 82)), (1, .ref (ad 0)), (0, .ref b)]) C.1 C.2.1 la_d15 rfl hl2 (by decide) rfl (fun ls2 hm2 => ?_)
  refine lv_iconst C.1 C.2.1 la_d16 (v := Int32.ofInt ((6 * 0 : Nat) : Int)) rfl ?_
  refine lv_istore_n (lv' := [(3, .int (Int32.ofInt ((6 * 0 : Nat) : Int))), (2, .ref (ad 82)), (1, .ref (ad 0)), (0, .ref b)]) C.1 C.2.1 la_d17 rfl hm2 (by decide) rfl (fun ls3 hm3 => ?_)
  obtain ⟨w1, w2, w3, w4, w5, w6, w7⟩ := p2
  refine la_loop C hR hX hbl hB hL hend 512 0 (by omega) (by omega) am_id10 141 mx_Inv_0 H locs cells slots ls3 ad cA tys (lv_at hm3 3 rfl) ⟨p1, ⟨w1, w2, w3, w4, w5, mx_0_okF, w7⟩, lv_sub hm3 [2, 1, 0] rfl, rfl, la_ok4 la_no9 (fun _ => p5 1 (109, 0) rfl (by decide)) (fun _ => p6 _ List.mem_cons_self) (fun _ => am_ok_0 ⟨by decide, by decide⟩), fun v hv => absurd hv List.not_mem_nil, p7⟩
/-- the classes' numbers, out of the tables -/
theorem la_world {args : Array Value} {s : State} (hts : ∀ w ∈ am_wa, w.before args s = true) : ∃ D : va_G, va_K D am_cl [] s := by
  have h : ∀ k : Nat, ∃ q : ClassId × (Nat → Nat), k < 11 → u_Kn s (am_cn k) (am_T k) (am_ft k).length q.1 q.2 := by
    intro k
    by_cases hk : k < 11
    · obtain ⟨cC, iS, hK⟩ := u_known hts (am_uws k hk) (hts _ (am_is_word hk))
      exact ⟨(cC, iS), fun _ => hK⟩
    · exact ⟨(default, fun _ => 0), fun h => absurd h hk⟩
  obtain ⟨f, hf⟩ := Classical.axiomOfChoice h
  refine ⟨(fun k => (f k).1, fun k => (f k).2), fun k q hq => ?_, fun k q hq => by simp at hq⟩
  have hk : k < 11 := (List.getElem?_eq_some_iff.mp hq).1
  rw [am_cl_at k hk] at hq
  cases hq
  exact hf k hk
