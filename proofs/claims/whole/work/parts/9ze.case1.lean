/-! THE LAW'S BODY: its cases -/
theorem la_cmp (z : Int) : am_cmp z z = 0 := by
  unfold am_cmp
  rw [if_neg (by omega), if_pos rfl]
def la_b (u : Int) : Int := if u = 0 then 0 else 1
theorem r_bool {ls : Array Slot} {p : Program} {l : Launch} {e : Env} {R : Room} {s : State} {m : MethodId} {args : Array Value} {below : List Frame} {meth : Method} {c : Code} {Q : State → Prop} {D : va_G} {B0 : Nat} {ka : Nat → Nat} {vF : Value} {md : Bool} {n0 c0 s0 : Nat} {ad0 : Nat → Nat} {nf : Nat} {G : am_S → Prop} (hG : G = la_Go ls p l e R s m args below meth c Q D B0 ka vF md 277 n0 c0 s0 ad0 nf) (C : am_Cx p s m args c 277 B0 ka vF) {pc nx : Nat} {L st : List am_V} {σ : am_M} {n : Nat} {u : Int} (hc : am_code 277 pc = some (.ifCond .eq 7, pc + 3, (pc + 7, 0, 0, 0), none) ∧ am_code 277 (pc + 3) = some (.iconst 1, pc + 4, (0, 0, 0, 0), none) ∧ am_code 277 (pc + 4) = some (.goto 4, pc + 7, (pc + 8, 0, 0, 0), none) ∧ am_code 277 (pc + 7) = some (.iconst 0, pc + 8, (0, 0, 0, 0), none)) (hp : nx = pc + 8) (g : G (nx, L, (0, la_b u) :: st, σ, n)) : G (pc, L, (0, u) :: st, σ, n) := by
  obtain ⟨c0, c1, c2, c3⟩ := hc
  subst hp
  refine r_z hG C c0 (fun h => ?_) (fun h => ?_)
  · refine r_iconst hG C c3 rfl ?_
    have : la_b u = 0 := if_pos h
    rw [this] at g
    exact g
  · refine r_iconst hG C c1 rfl ?_
    refine r_goto hG C c2 ?_
    have : la_b u = 1 := if_neg h
    rw [this] at g
    exact g
theorem la_c0 {ls : Array Slot} {p : Program} {l : Launch} {e : Env} {R : Room} {s : State} {m : MethodId} {args : Array Value} {below : List Frame} {meth : Method} {c : Code} {Q : State → Prop} {D : va_G} {B0 : Nat} {ka : Nat → Nat} {vF : Value} {n0 c0 s0 : Nat} {ad0 : Nat → Nat} {nf : Nat} {G : am_S → Prop} {b Ls i : Nat} {xs : Nat → Int32} (hG : G = la_Go ls p l e R s m args below meth c Q D B0 ka vF true 277 n0 c0 s0 ad0 nf) (C : am_Cx p s m args c 277 B0 ka vF) (hR : am_Rm R 150 c0 s0 n0 nf) (hX : va_X b Ls xs s s.heap) (hbl : b < s.heap.size) (hB : B0 = s.heap.size) (h0 : ls[0]? = some (.val (.ref b))) (hL : Ls ≤ 3072) (hi : i + 6 ≤ Ls) {σ : am_M} {n t : Nat} (hI : mx_Inv t n σ) (ht : t < 1000) (gn : ∀ σ' n', mx_Inv (t + 1) n' σ' → G (1681, la_L i, [], σ', n')) : G (220, la_L i, [], σ, n) := by
  obtain ⟨z, σ1, σ2, n2, e1, e2, hI2⟩ := row_c hI 147 (la_x xs (i + 1)) (la_x xs (i + 2)) (la_x xs (i + 3))
  refine r_aload hG C (j := 1) (t := 109) (z := 0) (nx := 221) (x := (0, 0, 0, 0)) (w := none) rfl (fun _ => rfl) rfl ?_
  refine r_arg hG C hX hbl hB h0 hL 1 (by omega) (nx := 226) ⟨rfl, rfl, rfl, rfl, rfl⟩ rfl ?_
  refine r_arg hG C hX hbl hB h0 hL 2 (by omega) (nx := 231) ⟨rfl, rfl, rfl, rfl, rfl⟩ rfl ?_
  refine r_arg hG C hX hbl hB h0 hL 3 (by omega) (nx := 236) ⟨rfl, rfl, rfl, rfl, rfl⟩ rfl ?_
  refine r_call hG C hR (j := 13) (nx := 239) (x := (16, 4, 109, 0)) (w := none) (as := [(109, 0), (0, la_x xs (i + 1)), (0, la_x xs (i + 2)), (0, la_x xs (i + 3))]) (rest := []) (z := z) rfl (fun _ => rfl) e1 ?_
  refine r_aload hG C (j := 2) (t := 110) (z := 82) (nx := 240) (x := (0, 0, 0, 0)) (w := none) rfl (fun _ => rfl) rfl ?_
  refine r_arg hG C hX hbl hB h0 hL 1 (by omega) (nx := 245) ⟨rfl, rfl, rfl, rfl, rfl⟩ rfl ?_
  refine r_arg hG C hX hbl hB h0 hL 2 (by omega) (nx := 250) ⟨rfl, rfl, rfl, rfl, rfl⟩ rfl ?_
  refine r_arg hG C hX hbl hB h0 hL 3 (by omega) (nx := 255) ⟨rfl, rfl, rfl, rfl, rfl⟩ rfl ?_
  refine r_call hG C hR (j := 17) (nx := 258) (x := (19, 4, 110, 0)) (w := none) (as := [(110, 82), (0, la_x xs (i + 1)), (0, la_x xs (i + 2)), (0, la_x xs (i + 3))]) (rest := [(0, z)]) (z := z) rfl (fun _ => rfl) e2 ?_
  exact r_eq hG C (q := 1423) (nx := 261) (x := (1681, 0, 0, 0)) (w := none) rfl rfl (gn _ _ hI2)
theorem la_c1 {ls : Array Slot} {p : Program} {l : Launch} {e : Env} {R : Room} {s : State} {m : MethodId} {args : Array Value} {below : List Frame} {meth : Method} {c : Code} {Q : State → Prop} {D : va_G} {B0 : Nat} {ka : Nat → Nat} {vF : Value} {n0 c0 s0 : Nat} {ad0 : Nat → Nat} {nf : Nat} {G : am_S → Prop} {b Ls i : Nat} {xs : Nat → Int32} (hG : G = la_Go ls p l e R s m args below meth c Q D B0 ka vF true 277 n0 c0 s0 ad0 nf) (C : am_Cx p s m args c 277 B0 ka vF) (hR : am_Rm R 150 c0 s0 n0 nf) (hX : va_X b Ls xs s s.heap) (hbl : b < s.heap.size) (hB : B0 = s.heap.size) (h0 : ls[0]? = some (.val (.ref b))) (hL : Ls ≤ 3072) (hi : i + 6 ≤ Ls) {σ : am_M} {n t : Nat} (hI : mx_Inv t n σ) (ht : t < 1000) (gn : ∀ σ' n', mx_Inv (t + 1) n' σ' → G (1681, la_L i, [], σ', n')) : G (263, la_L i, [], σ, n) := by
  obtain ⟨z, σ1, σ2, n2, e1, e2, hI2⟩ := set_c hI 147 (la_x xs (i + 1)) (la_x xs (i + 2)) (am_lor (am_lshl (la_x xs (i + 3)) (32)) (am_land (la_x xs (i + 4)) (4294967295))) (la_x_r _ _)
  refine r_aload hG C (j := 1) (t := 109) (z := 0) (nx := 264) (x := (0, 0, 0, 0)) (w := none) rfl (fun _ => rfl) rfl ?_
  refine r_arg hG C hX hbl hB h0 hL 1 (by omega) (nx := 269) ⟨rfl, rfl, rfl, rfl, rfl⟩ rfl ?_
  refine r_arg hG C hX hbl hB h0 hL 2 (by omega) (nx := 274) ⟨rfl, rfl, rfl, rfl, rfl⟩ rfl ?_
  refine r_arg hG C hX hbl hB h0 hL 3 (by omega) (nx := 279) ⟨rfl, rfl, rfl, rfl, rfl⟩ rfl ?_
  refine r_i2l hG C (nx := 280) (x := (0, 0, 0, 0)) (w := none) rfl ?_
  refine r_bipush hG C (z := 32) (nx := 282) (x := (0, 0, 0, 0)) (w := none) rfl rfl ?_
  refine r_lshl hG C (nx := 283) (x := (0, 0, 0, 0)) (w := none) rfl ?_
  refine r_arg hG C hX hbl hB h0 hL 4 (by omega) (nx := 288) ⟨rfl, rfl, rfl, rfl, rfl⟩ rfl ?_
  refine r_i2l hG C (nx := 289) (x := (0, 0, 0, 0)) (w := none) rfl ?_
  refine r_ldc2 hG C (j := 18) (nx := 292) (x := (1, 4294967295, 0, 0)) (w := none) rfl rfl ?_
  refine r_land hG C (nx := 293) (x := (0, 0, 0, 0)) (w := none) rfl ?_
  refine r_lor hG C (nx := 294) (x := (0, 0, 0, 0)) (w := none) rfl ?_
  refine r_call hG C hR (j := 20) (nx := 297) (x := (25, 4, 109, 0)) (w := none) (as := [(109, 0), (0, la_x xs (i + 1)), (0, la_x xs (i + 2)), (1, am_lor (am_lshl (la_x xs (i + 3)) (32)) (am_land (la_x xs (i + 4)) (4294967295)))]) (rest := []) (z := z) rfl (fun _ => rfl) e1 ?_
  refine r_aload hG C (j := 2) (t := 110) (z := 82) (nx := 298) (x := (0, 0, 0, 0)) (w := none) rfl (fun _ => rfl) rfl ?_
  refine r_arg hG C hX hbl hB h0 hL 1 (by omega) (nx := 303) ⟨rfl, rfl, rfl, rfl, rfl⟩ rfl ?_
  refine r_arg hG C hX hbl hB h0 hL 2 (by omega) (nx := 308) ⟨rfl, rfl, rfl, rfl, rfl⟩ rfl ?_
  refine r_arg hG C hX hbl hB h0 hL 3 (by omega) (nx := 313) ⟨rfl, rfl, rfl, rfl, rfl⟩ rfl ?_
  refine r_i2l hG C (nx := 314) (x := (0, 0, 0, 0)) (w := none) rfl ?_
  refine r_bipush hG C (z := 32) (nx := 316) (x := (0, 0, 0, 0)) (w := none) rfl rfl ?_
  refine r_lshl hG C (nx := 317) (x := (0, 0, 0, 0)) (w := none) rfl ?_
  refine r_arg hG C hX hbl hB h0 hL 4 (by omega) (nx := 322) ⟨rfl, rfl, rfl, rfl, rfl⟩ rfl ?_
  refine r_i2l hG C (nx := 323) (x := (0, 0, 0, 0)) (w := none) rfl ?_
  refine r_ldc2 hG C (j := 18) (nx := 326) (x := (1, 4294967295, 0, 0)) (w := none) rfl rfl ?_
  refine r_land hG C (nx := 327) (x := (0, 0, 0, 0)) (w := none) rfl ?_
  refine r_lor hG C (nx := 328) (x := (0, 0, 0, 0)) (w := none) rfl ?_
  refine r_call hG C hR (j := 24) (nx := 331) (x := (27, 4, 110, 0)) (w := none) (as := [(110, 82), (0, la_x xs (i + 1)), (0, la_x xs (i + 2)), (1, am_lor (am_lshl (la_x xs (i + 3)) (32)) (am_land (la_x xs (i + 4)) (4294967295)))]) (rest := [(0, z)]) (z := z) rfl (fun _ => rfl) e2 ?_
  exact r_eq hG C (q := 1350) (nx := 334) (x := (1681, 0, 0, 0)) (w := none) rfl rfl (gn _ _ hI2)
theorem la_c2 {ls : Array Slot} {p : Program} {l : Launch} {e : Env} {R : Room} {s : State} {m : MethodId} {args : Array Value} {below : List Frame} {meth : Method} {c : Code} {Q : State → Prop} {D : va_G} {B0 : Nat} {ka : Nat → Nat} {vF : Value} {n0 c0 s0 : Nat} {ad0 : Nat → Nat} {nf : Nat} {G : am_S → Prop} {b Ls i : Nat} {xs : Nat → Int32} (hG : G = la_Go ls p l e R s m args below meth c Q D B0 ka vF true 277 n0 c0 s0 ad0 nf) (C : am_Cx p s m args c 277 B0 ka vF) (hR : am_Rm R 150 c0 s0 n0 nf) (hX : va_X b Ls xs s s.heap) (hbl : b < s.heap.size) (hB : B0 = s.heap.size) (h0 : ls[0]? = some (.val (.ref b))) (hL : Ls ≤ 3072) (hi : i + 6 ≤ Ls) {σ : am_M} {n t : Nat} (hI : mx_Inv t n σ) (ht : t < 1000) (gn : ∀ σ' n', mx_Inv (t + 1) n' σ' → G (1681, la_L i, [], σ', n')) : G (336, la_L i, [], σ, n) := by
  obtain ⟨z, σ1, σ2, n2, e1, e2, hI2⟩ := copy_c hI 147 (la_x xs (i + 1)) (la_x xs (i + 2)) (la_x xs (i + 3)) (la_x xs (i + 4)) (la_x xs (i + 5)) (la_x_r _ _) (la_x_r _ _) (la_x_r _ _)
  refine r_aload hG C (j := 1) (t := 109) (z := 0) (nx := 337) (x := (0, 0, 0, 0)) (w := none) rfl (fun _ => rfl) rfl ?_
  refine r_arg hG C hX hbl hB h0 hL 1 (by omega) (nx := 342) ⟨rfl, rfl, rfl, rfl, rfl⟩ rfl ?_
  refine r_arg hG C hX hbl hB h0 hL 2 (by omega) (nx := 347) ⟨rfl, rfl, rfl, rfl, rfl⟩ rfl ?_
  refine r_arg hG C hX hbl hB h0 hL 3 (by omega) (nx := 352) ⟨rfl, rfl, rfl, rfl, rfl⟩ rfl ?_
  refine r_arg hG C hX hbl hB h0 hL 4 (by omega) (nx := 357) ⟨rfl, rfl, rfl, rfl, rfl⟩ rfl ?_
  refine r_arg hG C hX hbl hB h0 hL 5 (by omega) (nx := 362) ⟨rfl, rfl, rfl, rfl, rfl⟩ rfl ?_
  refine r_call hG C hR (j := 25) (nx := 365) (x := (28, 6, 109, 0)) (w := none) (as := [(109, 0), (0, la_x xs (i + 1)), (0, la_x xs (i + 2)), (0, la_x xs (i + 3)), (0, la_x xs (i + 4)), (0, la_x xs (i + 5))]) (rest := []) (z := z) rfl (fun _ => rfl) e1 ?_
  refine r_aload hG C (j := 2) (t := 110) (z := 82) (nx := 366) (x := (0, 0, 0, 0)) (w := none) rfl (fun _ => rfl) rfl ?_
  refine r_arg hG C hX hbl hB h0 hL 1 (by omega) (nx := 371) ⟨rfl, rfl, rfl, rfl, rfl⟩ rfl ?_
  refine r_arg hG C hX hbl hB h0 hL 2 (by omega) (nx := 376) ⟨rfl, rfl, rfl, rfl, rfl⟩ rfl ?_
  refine r_arg hG C hX hbl hB h0 hL 3 (by omega) (nx := 381) ⟨rfl, rfl, rfl, rfl, rfl⟩ rfl ?_
  refine r_arg hG C hX hbl hB h0 hL 4 (by omega) (nx := 386) ⟨rfl, rfl, rfl, rfl, rfl⟩ rfl ?_
  refine r_arg hG C hX hbl hB h0 hL 5 (by omega) (nx := 391) ⟨rfl, rfl, rfl, rfl, rfl⟩ rfl ?_
  refine r_call hG C hR (j := 29) (nx := 394) (x := (29, 6, 110, 0)) (w := none) (as := [(110, 82), (0, la_x xs (i + 1)), (0, la_x xs (i + 2)), (0, la_x xs (i + 3)), (0, la_x xs (i + 4)), (0, la_x xs (i + 5))]) (rest := [(0, z)]) (z := z) rfl (fun _ => rfl) e2 ?_
  exact r_eq hG C (q := 1287) (nx := 397) (x := (1681, 0, 0, 0)) (w := none) rfl rfl (gn _ _ hI2)
theorem la_c3 {ls : Array Slot} {p : Program} {l : Launch} {e : Env} {R : Room} {s : State} {m : MethodId} {args : Array Value} {below : List Frame} {meth : Method} {c : Code} {Q : State → Prop} {D : va_G} {B0 : Nat} {ka : Nat → Nat} {vF : Value} {n0 c0 s0 : Nat} {ad0 : Nat → Nat} {nf : Nat} {G : am_S → Prop} {b Ls i : Nat} {xs : Nat → Int32} (hG : G = la_Go ls p l e R s m args below meth c Q D B0 ka vF true 277 n0 c0 s0 ad0 nf) (C : am_Cx p s m args c 277 B0 ka vF) (hR : am_Rm R 150 c0 s0 n0 nf) (hX : va_X b Ls xs s s.heap) (hbl : b < s.heap.size) (hB : B0 = s.heap.size) (h0 : ls[0]? = some (.val (.ref b))) (hL : Ls ≤ 3072) (hi : i + 6 ≤ Ls) {σ : am_M} {n t : Nat} (hI : mx_Inv t n σ) (ht : t < 1000) (gn : ∀ σ' n', mx_Inv (t + 1) n' σ' → G (1681, la_L i, [], σ', n')) : G (399, la_L i, [], σ, n) := by
  obtain ⟨z, σ1, σ2, n2, e1, e2, hI2⟩ := element_c hI 147 (la_x xs (i + 1)) (la_x xs (i + 2)) (la_x_r _ _)
  refine r_aload hG C (j := 1) (t := 109) (z := 0) (nx := 400) (x := (0, 0, 0, 0)) (w := none) rfl (fun _ => rfl) rfl ?_
  refine r_arg hG C hX hbl hB h0 hL 1 (by omega) (nx := 405) ⟨rfl, rfl, rfl, rfl, rfl⟩ rfl ?_
  refine r_arg hG C hX hbl hB h0 hL 2 (by omega) (nx := 410) ⟨rfl, rfl, rfl, rfl, rfl⟩ rfl ?_
  refine r_call hG C hR (j := 30) (nx := 413) (x := (30, 3, 109, 1)) (w := none) (as := [(109, 0), (0, la_x xs (i + 1)), (0, la_x xs (i + 2))]) (rest := []) (z := z) rfl (fun _ => rfl) e1 ?_
  refine r_aload hG C (j := 2) (t := 110) (z := 82) (nx := 414) (x := (0, 0, 0, 0)) (w := none) rfl (fun _ => rfl) rfl ?_
  refine r_arg hG C hX hbl hB h0 hL 1 (by omega) (nx := 419) ⟨rfl, rfl, rfl, rfl, rfl⟩ rfl ?_
  refine r_arg hG C hX hbl hB h0 hL 2 (by omega) (nx := 424) ⟨rfl, rfl, rfl, rfl, rfl⟩ rfl ?_
  refine r_call hG C hR (j := 34) (nx := 427) (x := (31, 3, 110, 1)) (w := none) (as := [(110, 82), (0, la_x xs (i + 1)), (0, la_x xs (i + 2))]) (rest := [(1, z)]) (z := z) rfl (fun _ => rfl) e2 ?_
  refine r_lcmp hG C (nx := 428) (x := (0, 0, 0, 0)) (w := none) rfl ?_
  exact r_z hG C (q := 1253) (nx := 431) (x := (1681, 0, 0, 0)) (w := none) rfl (fun _ => gn _ _ hI2) (fun q => absurd (la_cmp z) q)
theorem la_c4 {ls : Array Slot} {p : Program} {l : Launch} {e : Env} {R : Room} {s : State} {m : MethodId} {args : Array Value} {below : List Frame} {meth : Method} {c : Code} {Q : State → Prop} {D : va_G} {B0 : Nat} {ka : Nat → Nat} {vF : Value} {n0 c0 s0 : Nat} {ad0 : Nat → Nat} {nf : Nat} {G : am_S → Prop} {b Ls i : Nat} {xs : Nat → Int32} (hG : G = la_Go ls p l e R s m args below meth c Q D B0 ka vF true 277 n0 c0 s0 ad0 nf) (C : am_Cx p s m args c 277 B0 ka vF) (hR : am_Rm R 150 c0 s0 n0 nf) (hX : va_X b Ls xs s s.heap) (hbl : b < s.heap.size) (hB : B0 = s.heap.size) (h0 : ls[0]? = some (.val (.ref b))) (hL : Ls ≤ 3072) (hi : i + 6 ≤ Ls) {σ : am_M} {n t : Nat} (hI : mx_Inv t n σ) (ht : t < 1000) (gn : ∀ σ' n', mx_Inv (t + 1) n' σ' → G (1681, la_L i, [], σ', n')) : G (433, la_L i, [], σ, n) := by
  obtain ⟨z, σ1, σ2, n2, e1, e2, hI2⟩ := show_c hI 147 (la_x xs (i + 1)) (la_x xs (i + 2))
  refine r_aload hG C (j := 1) (t := 109) (z := 0) (nx := 434) (x := (0, 0, 0, 0)) (w := none) rfl (fun _ => rfl) rfl ?_
  refine r_arg hG C hX hbl hB h0 hL 1 (by omega) (nx := 439) ⟨rfl, rfl, rfl, rfl, rfl⟩ rfl ?_
  refine r_arg hG C hX hbl hB h0 hL 2 (by omega) (nx := 444) ⟨rfl, rfl, rfl, rfl, rfl⟩ rfl ?_
  refine r_call hG C hR (j := 35) (nx := 447) (x := (34, 3, 109, 0)) (w := none) (as := [(109, 0), (0, la_x xs (i + 1)), (0, la_x xs (i + 2))]) (rest := []) (z := z) rfl (fun _ => rfl) e1 ?_
  refine r_aload hG C (j := 2) (t := 110) (z := 82) (nx := 448) (x := (0, 0, 0, 0)) (w := none) rfl (fun _ => rfl) rfl ?_
  refine r_arg hG C hX hbl hB h0 hL 1 (by omega) (nx := 453) ⟨rfl, rfl, rfl, rfl, rfl⟩ rfl ?_
  refine r_arg hG C hX hbl hB h0 hL 2 (by omega) (nx := 458) ⟨rfl, rfl, rfl, rfl, rfl⟩ rfl ?_
  refine r_call hG C hR (j := 39) (nx := 461) (x := (36, 3, 110, 0)) (w := none) (as := [(110, 82), (0, la_x xs (i + 1)), (0, la_x xs (i + 2))]) (rest := [(0, z)]) (z := z) rfl (fun _ => rfl) e2 ?_
  exact r_eq hG C (q := 1220) (nx := 464) (x := (1681, 0, 0, 0)) (w := none) rfl rfl (gn _ _ hI2)
theorem la_c5 {ls : Array Slot} {p : Program} {l : Launch} {e : Env} {R : Room} {s : State} {m : MethodId} {args : Array Value} {below : List Frame} {meth : Method} {c : Code} {Q : State → Prop} {D : va_G} {B0 : Nat} {ka : Nat → Nat} {vF : Value} {n0 c0 s0 : Nat} {ad0 : Nat → Nat} {nf : Nat} {G : am_S → Prop} {b Ls i : Nat} {xs : Nat → Int32} (hG : G = la_Go ls p l e R s m args below meth c Q D B0 ka vF true 277 n0 c0 s0 ad0 nf) (C : am_Cx p s m args c 277 B0 ka vF) (hR : am_Rm R 150 c0 s0 n0 nf) (hX : va_X b Ls xs s s.heap) (hbl : b < s.heap.size) (hB : B0 = s.heap.size) (h0 : ls[0]? = some (.val (.ref b))) (hL : Ls ≤ 3072) (hi : i + 6 ≤ Ls) {σ : am_M} {n t : Nat} (hI : mx_Inv t n σ) (ht : t < 1000) (gn : ∀ σ' n', mx_Inv (t + 1) n' σ' → G (1681, la_L i, [], σ', n')) : G (466, la_L i, [], σ, n) := by
  obtain ⟨z, σ1, σ2, n2, e1, e2, hI2⟩ := holds_c hI 147 (la_x xs (i + 1))
  refine r_aload hG C (j := 1) (t := 109) (z := 0) (nx := 467) (x := (0, 0, 0, 0)) (w := none) rfl (fun _ => rfl) rfl ?_
  refine r_arg hG C hX hbl hB h0 hL 1 (by omega) (nx := 472) ⟨rfl, rfl, rfl, rfl, rfl⟩ rfl ?_
  refine r_call hG C hR (j := 40) (nx := 475) (x := (37, 2, 109, 0)) (w := none) (as := [(109, 0), (0, la_x xs (i + 1))]) (rest := []) (z := z) rfl (fun _ => rfl) e1 ?_
  refine r_aload hG C (j := 2) (t := 110) (z := 82) (nx := 476) (x := (0, 0, 0, 0)) (w := none) rfl (fun _ => rfl) rfl ?_
  refine r_arg hG C hX hbl hB h0 hL 1 (by omega) (nx := 481) ⟨rfl, rfl, rfl, rfl, rfl⟩ rfl ?_
  refine r_call hG C hR (j := 44) (nx := 484) (x := (38, 2, 110, 0)) (w := none) (as := [(110, 82), (0, la_x xs (i + 1))]) (rest := [(0, z)]) (z := z) rfl (fun _ => rfl) e2 ?_
  exact r_eq hG C (q := 1197) (nx := 487) (x := (1681, 0, 0, 0)) (w := none) rfl rfl (gn _ _ hI2)
theorem la_c6 {ls : Array Slot} {p : Program} {l : Launch} {e : Env} {R : Room} {s : State} {m : MethodId} {args : Array Value} {below : List Frame} {meth : Method} {c : Code} {Q : State → Prop} {D : va_G} {B0 : Nat} {ka : Nat → Nat} {vF : Value} {n0 c0 s0 : Nat} {ad0 : Nat → Nat} {nf : Nat} {G : am_S → Prop} {b Ls i : Nat} {xs : Nat → Int32} (hG : G = la_Go ls p l e R s m args below meth c Q D B0 ka vF true 277 n0 c0 s0 ad0 nf) (C : am_Cx p s m args c 277 B0 ka vF) (hR : am_Rm R 150 c0 s0 n0 nf) (hX : va_X b Ls xs s s.heap) (hbl : b < s.heap.size) (hB : B0 = s.heap.size) (h0 : ls[0]? = some (.val (.ref b))) (hL : Ls ≤ 3072) (hi : i + 6 ≤ Ls) {σ : am_M} {n t : Nat} (hI : mx_Inv t n σ) (ht : t < 1000) (gn : ∀ σ' n', mx_Inv (t + 1) n' σ' → G (1681, la_L i, [], σ', n')) : G (489, la_L i, [], σ, n) := by
  obtain ⟨z, σ1, σ2, n2, e1, e2, hI2⟩ := says_c hI 147 (la_x xs (i + 1)) (la_x xs (i + 2))
  refine r_aload hG C (j := 1) (t := 109) (z := 0) (nx := 490) (x := (0, 0, 0, 0)) (w := none) rfl (fun _ => rfl) rfl ?_
  refine r_arg hG C hX hbl hB h0 hL 1 (by omega) (nx := 495) ⟨rfl, rfl, rfl, rfl, rfl⟩ rfl ?_
  refine r_arg hG C hX hbl hB h0 hL 2 (by omega) (nx := 500) ⟨rfl, rfl, rfl, rfl, rfl⟩ rfl ?_
  refine r_call hG C hR (j := 45) (nx := 503) (x := (42, 3, 109, 0)) (w := none) (as := [(109, 0), (0, la_x xs (i + 1)), (0, la_x xs (i + 2))]) (rest := []) (z := z) rfl (fun _ => rfl) e1 ?_
  refine r_aload hG C (j := 2) (t := 110) (z := 82) (nx := 504) (x := (0, 0, 0, 0)) (w := none) rfl (fun _ => rfl) rfl ?_
  refine r_arg hG C hX hbl hB h0 hL 1 (by omega) (nx := 509) ⟨rfl, rfl, rfl, rfl, rfl⟩ rfl ?_
  refine r_arg hG C hX hbl hB h0 hL 2 (by omega) (nx := 514) ⟨rfl, rfl, rfl, rfl, rfl⟩ rfl ?_
  refine r_call hG C hR (j := 48) (nx := 517) (x := (46, 3, 110, 0)) (w := none) (as := [(110, 82), (0, la_x xs (i + 1)), (0, la_x xs (i + 2))]) (rest := [(0, z)]) (z := z) rfl (fun _ => rfl) e2 ?_
  exact r_eq hG C (q := 1164) (nx := 520) (x := (1681, 0, 0, 0)) (w := none) rfl rfl (gn _ _ hI2)
theorem la_c7 {ls : Array Slot} {p : Program} {l : Launch} {e : Env} {R : Room} {s : State} {m : MethodId} {args : Array Value} {below : List Frame} {meth : Method} {c : Code} {Q : State → Prop} {D : va_G} {B0 : Nat} {ka : Nat → Nat} {vF : Value} {n0 c0 s0 : Nat} {ad0 : Nat → Nat} {nf : Nat} {G : am_S → Prop} {b Ls i : Nat} {xs : Nat → Int32} (hG : G = la_Go ls p l e R s m args below meth c Q D B0 ka vF true 277 n0 c0 s0 ad0 nf) (C : am_Cx p s m args c 277 B0 ka vF) (hR : am_Rm R 150 c0 s0 n0 nf) (hX : va_X b Ls xs s s.heap) (hbl : b < s.heap.size) (hB : B0 = s.heap.size) (h0 : ls[0]? = some (.val (.ref b))) (hL : Ls ≤ 3072) (hi : i + 6 ≤ Ls) {σ : am_M} {n t : Nat} (hI : mx_Inv t n σ) (ht : t < 1000) (gn : ∀ σ' n', mx_Inv (t + 1) n' σ' → G (1681, la_L i, [], σ', n')) : G (522, la_L i, [], σ, n) := by
  obtain ⟨z, σ1, σ2, n2, e1, e2, hI2⟩ := table_c hI 147 (la_x xs (i + 1)) (la_x xs (i + 2)) (la_x xs (i + 3)) (la_x xs (i + 4))
  refine r_aload hG C (j := 1) (t := 109) (z := 0) (nx := 523) (x := (0, 0, 0, 0)) (w := none) rfl (fun _ => rfl) rfl ?_
  refine r_arg hG C hX hbl hB h0 hL 1 (by omega) (nx := 528) ⟨rfl, rfl, rfl, rfl, rfl⟩ rfl ?_
  refine r_arg hG C hX hbl hB h0 hL 2 (by omega) (nx := 533) ⟨rfl, rfl, rfl, rfl, rfl⟩ rfl ?_
  refine r_arg hG C hX hbl hB h0 hL 3 (by omega) (nx := 538) ⟨rfl, rfl, rfl, rfl, rfl⟩ rfl ?_
  refine r_arg hG C hX hbl hB h0 hL 4 (by omega) (nx := 543) ⟨rfl, rfl, rfl, rfl, rfl⟩ rfl ?_
  refine r_call hG C hR (j := 49) (nx := 546) (x := (50, 5, 109, 0)) (w := none) (as := [(109, 0), (0, la_x xs (i + 1)), (0, la_x xs (i + 2)), (0, la_x xs (i + 3)), (0, la_x xs (i + 4))]) (rest := []) (z := z) rfl (fun _ => rfl) e1 ?_
  refine r_aload hG C (j := 2) (t := 110) (z := 82) (nx := 547) (x := (0, 0, 0, 0)) (w := none) rfl (fun _ => rfl) rfl ?_
  refine r_arg hG C hX hbl hB h0 hL 1 (by omega) (nx := 552) ⟨rfl, rfl, rfl, rfl, rfl⟩ rfl ?_
  refine r_arg hG C hX hbl hB h0 hL 2 (by omega) (nx := 557) ⟨rfl, rfl, rfl, rfl, rfl⟩ rfl ?_
  refine r_arg hG C hX hbl hB h0 hL 3 (by omega) (nx := 562) ⟨rfl, rfl, rfl, rfl, rfl⟩ rfl ?_
  refine r_arg hG C hX hbl hB h0 hL 4 (by omega) (nx := 567) ⟨rfl, rfl, rfl, rfl, rfl⟩ rfl ?_
  refine r_call hG C hR (j := 53) (nx := 570) (x := (52, 5, 110, 0)) (w := none) (as := [(110, 82), (0, la_x xs (i + 1)), (0, la_x xs (i + 2)), (0, la_x xs (i + 3)), (0, la_x xs (i + 4))]) (rest := [(0, z)]) (z := z) rfl (fun _ => rfl) e2 ?_
  exact r_eq hG C (q := 1111) (nx := 573) (x := (1681, 0, 0, 0)) (w := none) rfl rfl (gn _ _ hI2)
theorem la_c8 {ls : Array Slot} {p : Program} {l : Launch} {e : Env} {R : Room} {s : State} {m : MethodId} {args : Array Value} {below : List Frame} {meth : Method} {c : Code} {Q : State → Prop} {D : va_G} {B0 : Nat} {ka : Nat → Nat} {vF : Value} {n0 c0 s0 : Nat} {ad0 : Nat → Nat} {nf : Nat} {G : am_S → Prop} {b Ls i : Nat} {xs : Nat → Int32} (hG : G = la_Go ls p l e R s m args below meth c Q D B0 ka vF true 277 n0 c0 s0 ad0 nf) (C : am_Cx p s m args c 277 B0 ka vF) (hR : am_Rm R 150 c0 s0 n0 nf) (hX : va_X b Ls xs s s.heap) (hbl : b < s.heap.size) (hB : B0 = s.heap.size) (h0 : ls[0]? = some (.val (.ref b))) (hL : Ls ≤ 3072) (hi : i + 6 ≤ Ls) {σ : am_M} {n t : Nat} (hI : mx_Inv t n σ) (ht : t < 1000) (gn : ∀ σ' n', mx_Inv (t + 1) n' σ' → G (1681, la_L i, [], σ', n')) : G (575, la_L i, [], σ, n) := by
  obtain ⟨z, σ1, σ2, n2, e1, e2, hI2⟩ := tableOf_c hI 147 (la_x xs (i + 1)) (la_x xs (i + 2))
  refine r_aload hG C (j := 1) (t := 109) (z := 0) (nx := 576) (x := (0, 0, 0, 0)) (w := none) rfl (fun _ => rfl) rfl ?_
  refine r_arg hG C hX hbl hB h0 hL 1 (by omega) (nx := 581) ⟨rfl, rfl, rfl, rfl, rfl⟩ rfl ?_
  refine r_arg hG C hX hbl hB h0 hL 2 (by omega) (nx := 586) ⟨rfl, rfl, rfl, rfl, rfl⟩ rfl ?_
  refine r_call hG C hR (j := 54) (nx := 589) (x := (55, 3, 109, 0)) (w := none) (as := [(109, 0), (0, la_x xs (i + 1)), (0, la_x xs (i + 2))]) (rest := []) (z := z) rfl (fun _ => rfl) e1 ?_
  refine r_aload hG C (j := 2) (t := 110) (z := 82) (nx := 590) (x := (0, 0, 0, 0)) (w := none) rfl (fun _ => rfl) rfl ?_
  refine r_arg hG C hX hbl hB h0 hL 1 (by omega) (nx := 595) ⟨rfl, rfl, rfl, rfl, rfl⟩ rfl ?_
  refine r_arg hG C hX hbl hB h0 hL 2 (by omega) (nx := 600) ⟨rfl, rfl, rfl, rfl, rfl⟩ rfl ?_
  refine r_call hG C hR (j := 57) (nx := 603) (x := (56, 3, 110, 0)) (w := none) (as := [(110, 82), (0, la_x xs (i + 1)), (0, la_x xs (i + 2))]) (rest := [(0, z)]) (z := z) rfl (fun _ => rfl) e2 ?_
  exact r_eq hG C (q := 1078) (nx := 606) (x := (1681, 0, 0, 0)) (w := none) rfl rfl (gn _ _ hI2)
theorem la_c9 {ls : Array Slot} {p : Program} {l : Launch} {e : Env} {R : Room} {s : State} {m : MethodId} {args : Array Value} {below : List Frame} {meth : Method} {c : Code} {Q : State → Prop} {D : va_G} {B0 : Nat} {ka : Nat → Nat} {vF : Value} {n0 c0 s0 : Nat} {ad0 : Nat → Nat} {nf : Nat} {G : am_S → Prop} {b Ls i : Nat} {xs : Nat → Int32} (hG : G = la_Go ls p l e R s m args below meth c Q D B0 ka vF true 277 n0 c0 s0 ad0 nf) (C : am_Cx p s m args c 277 B0 ka vF) (hR : am_Rm R 150 c0 s0 n0 nf) (hX : va_X b Ls xs s s.heap) (hbl : b < s.heap.size) (hB : B0 = s.heap.size) (h0 : ls[0]? = some (.val (.ref b))) (hL : Ls ≤ 3072) (hi : i + 6 ≤ Ls) {σ : am_M} {n t : Nat} (hI : mx_Inv t n σ) (ht : t < 1000) (gn : ∀ σ' n', mx_Inv (t + 1) n' σ' → G (1681, la_L i, [], σ', n')) : G (608, la_L i, [], σ, n) := by
  obtain ⟨z, σ1, σ2, n2, e1, e2, hI2⟩ := distinct_c hI ht 147 (la_x xs (i + 1)) (la_x xs (i + 2))
  refine r_aload hG C (j := 1) (t := 109) (z := 0) (nx := 609) (x := (0, 0, 0, 0)) (w := none) rfl (fun _ => rfl) rfl ?_
  refine r_arg hG C hX hbl hB h0 hL 1 (by omega) (nx := 614) ⟨rfl, rfl, rfl, rfl, rfl⟩ rfl ?_
  refine r_arg hG C hX hbl hB h0 hL 2 (by omega) (nx := 619) ⟨rfl, rfl, rfl, rfl, rfl⟩ rfl ?_
  refine r_call hG C hR (j := 58) (nx := 622) (x := (57, 3, 109, 0)) (w := none) (as := [(109, 0), (0, la_x xs (i + 1)), (0, la_x xs (i + 2))]) (rest := []) (z := z) rfl (fun _ => rfl) e1 ?_
  refine r_aload hG C (j := 2) (t := 110) (z := 82) (nx := 623) (x := (0, 0, 0, 0)) (w := none) rfl (fun _ => rfl) rfl ?_
  refine r_arg hG C hX hbl hB h0 hL 1 (by omega) (nx := 628) ⟨rfl, rfl, rfl, rfl, rfl⟩ rfl ?_
  refine r_arg hG C hX hbl hB h0 hL 2 (by omega) (nx := 633) ⟨rfl, rfl, rfl, rfl, rfl⟩ rfl ?_
  refine r_call hG C hR (j := 61) (nx := 636) (x := (58, 3, 110, 0)) (w := none) (as := [(110, 82), (0, la_x xs (i + 1)), (0, la_x xs (i + 2))]) (rest := [(0, z)]) (z := z) rfl (fun _ => rfl) e2 ?_
  exact r_eq hG C (q := 1045) (nx := 639) (x := (1681, 0, 0, 0)) (w := none) rfl rfl (gn _ _ hI2)
theorem la_c10 {ls : Array Slot} {p : Program} {l : Launch} {e : Env} {R : Room} {s : State} {m : MethodId} {args : Array Value} {below : List Frame} {meth : Method} {c : Code} {Q : State → Prop} {D : va_G} {B0 : Nat} {ka : Nat → Nat} {vF : Value} {n0 c0 s0 : Nat} {ad0 : Nat → Nat} {nf : Nat} {G : am_S → Prop} {b Ls i : Nat} {xs : Nat → Int32} (hG : G = la_Go ls p l e R s m args below meth c Q D B0 ka vF true 277 n0 c0 s0 ad0 nf) (C : am_Cx p s m args c 277 B0 ka vF) (hR : am_Rm R 150 c0 s0 n0 nf) (hX : va_X b Ls xs s s.heap) (hbl : b < s.heap.size) (hB : B0 = s.heap.size) (h0 : ls[0]? = some (.val (.ref b))) (hL : Ls ≤ 3072) (hi : i + 6 ≤ Ls) {σ : am_M} {n t : Nat} (hI : mx_Inv t n σ) (ht : t < 1000) (gn : ∀ σ' n', mx_Inv (t + 1) n' σ' → G (1681, la_L i, [], σ', n')) : G (641, la_L i, [], σ, n) := by
  obtain ⟨z, σ1, σ2, n2, e1, e2, hI2⟩ := scan_c hI ht 144 (la_x xs (i + 1))
  refine r_aload hG C (j := 1) (t := 109) (z := 0) (nx := 642) (x := (0, 0, 0, 0)) (w := none) rfl (fun _ => rfl) rfl ?_
  refine r_arg hG C hX hbl hB h0 hL 1 (by omega) (nx := 647) ⟨rfl, rfl, rfl, rfl, rfl⟩ rfl ?_
  refine r_call hG C hR (j := 62) (nx := 650) (x := (66, 2, 109, 0)) (w := none) (as := [(109, 0), (0, la_x xs (i + 1))]) (rest := []) (z := z) rfl (fun _ => rfl) e1 ?_
  refine r_aload hG C (j := 2) (t := 110) (z := 82) (nx := 651) (x := (0, 0, 0, 0)) (w := none) rfl (fun _ => rfl) rfl ?_
  refine r_arg hG C hX hbl hB h0 hL 1 (by omega) (nx := 656) ⟨rfl, rfl, rfl, rfl, rfl⟩ rfl ?_
  refine r_call hG C hR (j := 65) (nx := 659) (x := (71, 2, 110, 0)) (w := none) (as := [(110, 82), (0, la_x xs (i + 1))]) (rest := [(0, z)]) (z := z) rfl (fun _ => rfl) e2 ?_
  exact r_eq hG C (q := 1022) (nx := 662) (x := (1681, 0, 0, 0)) (w := none) rfl rfl (gn _ _ hI2)
