/-! THE LAW'S BODY: its cases -/
theorem la_c11 {ls : Array Slot} {p : Program} {l : Launch} {e : Env} {R : Room} {s : State} {m : MethodId} {args : Array Value} {below : List Frame} {meth : Method} {c : Code} {Q : State → Prop} {D : va_G} {B0 : Nat} {ka : Nat → Nat} {vF : Value} {n0 c0 s0 : Nat} {ad0 : Nat → Nat} {nf : Nat} {G : am_S → Prop} {b Ls i : Nat} {xs : Nat → Int32} (hG : G = la_Go ls p l e R s m args below meth c Q D B0 ka vF true 277 n0 c0 s0 ad0 nf) (C : am_Cx p s m args c 277 B0 ka vF) (hR : am_Rm R 150 c0 s0 n0 nf) (hX : va_X b Ls xs s s.heap) (hbl : b < s.heap.size) (hB : B0 = s.heap.size) (h0 : ls[0]? = some (.val (.ref b))) (hL : Ls ≤ 3072) (hi : i + 6 ≤ Ls) {σ : am_M} {n t : Nat} (hI : mx_Inv t n σ) (ht : t < 1000) (gn : ∀ σ' n', mx_Inv (t + 1) n' σ' → G (1681, la_L i, [], σ', n')) : G (664, la_L i, [], σ, n) := by
  obtain ⟨z, σ1, σ2, n2, e1, e2, hI2⟩ := keep_c hI ht 144 (la_x xs (i + 1)) (la_x xs (i + 2))
  refine r_aload hG C (j := 1) (t := 109) (z := 0) (nx := 665) (x := (0, 0, 0, 0)) (w := none) rfl (fun _ => rfl) rfl ?_
  refine r_arg hG C hX hbl hB h0 hL 1 (by omega) (nx := 670) ⟨rfl, rfl, rfl, rfl, rfl⟩ rfl ?_
  refine r_arg hG C hX hbl hB h0 hL 2 (by omega) (nx := 675) ⟨rfl, rfl, rfl, rfl, rfl⟩ rfl ?_
  refine r_call hG C hR (j := 66) (nx := 678) (x := (75, 3, 109, 0)) (w := none) (as := [(109, 0), (0, la_x xs (i + 1)), (0, la_x xs (i + 2))]) (rest := []) (z := z) rfl (fun _ => rfl) e1 ?_
  refine r_aload hG C (j := 2) (t := 110) (z := 82) (nx := 679) (x := (0, 0, 0, 0)) (w := none) rfl (fun _ => rfl) rfl ?_
  refine r_arg hG C hX hbl hB h0 hL 1 (by omega) (nx := 684) ⟨rfl, rfl, rfl, rfl, rfl⟩ rfl ?_
  refine r_arg hG C hX hbl hB h0 hL 2 (by omega) (nx := 689) ⟨rfl, rfl, rfl, rfl, rfl⟩ rfl ?_
  refine r_call hG C hR (j := 69) (nx := 692) (x := (79, 3, 110, 0)) (w := none) (as := [(110, 82), (0, la_x xs (i + 1)), (0, la_x xs (i + 2))]) (rest := [(0, z)]) (z := z) rfl (fun _ => rfl) e2 ?_
  exact r_eq hG C (q := 989) (nx := 695) (x := (1681, 0, 0, 0)) (w := none) rfl rfl (gn _ _ hI2)
theorem la_c12 {ls : Array Slot} {p : Program} {l : Launch} {e : Env} {R : Room} {s : State} {m : MethodId} {args : Array Value} {below : List Frame} {meth : Method} {c : Code} {Q : State → Prop} {D : va_G} {B0 : Nat} {ka : Nat → Nat} {vF : Value} {n0 c0 s0 : Nat} {ad0 : Nat → Nat} {nf : Nat} {G : am_S → Prop} {b Ls i : Nat} {xs : Nat → Int32} (hG : G = la_Go ls p l e R s m args below meth c Q D B0 ka vF true 277 n0 c0 s0 ad0 nf) (C : am_Cx p s m args c 277 B0 ka vF) (hR : am_Rm R 150 c0 s0 n0 nf) (hX : va_X b Ls xs s s.heap) (hbl : b < s.heap.size) (hB : B0 = s.heap.size) (h0 : ls[0]? = some (.val (.ref b))) (hL : Ls ≤ 3072) (hi : i + 6 ≤ Ls) {σ : am_M} {n t : Nat} (hI : mx_Inv t n σ) (ht : t < 1000) (gn : ∀ σ' n', mx_Inv (t + 1) n' σ' → G (1681, la_L i, [], σ', n')) : G (697, la_L i, [], σ, n) := by
  obtain ⟨z, σ1, σ2, n2, e1, e2, hI2⟩ := tally_c hI ht 144 (la_x xs (i + 1)) (la_x xs (i + 2))
  refine r_aload hG C (j := 1) (t := 109) (z := 0) (nx := 698) (x := (0, 0, 0, 0)) (w := none) rfl (fun _ => rfl) rfl ?_
  refine r_arg hG C hX hbl hB h0 hL 1 (by omega) (nx := 703) ⟨rfl, rfl, rfl, rfl, rfl⟩ rfl ?_
  refine r_arg hG C hX hbl hB h0 hL 2 (by omega) (nx := 708) ⟨rfl, rfl, rfl, rfl, rfl⟩ rfl ?_
  refine r_call hG C hR (j := 70) (nx := 711) (x := (80, 3, 109, 0)) (w := none) (as := [(109, 0), (0, la_x xs (i + 1)), (0, la_x xs (i + 2))]) (rest := []) (z := z) rfl (fun _ => rfl) e1 ?_
  refine r_aload hG C (j := 2) (t := 110) (z := 82) (nx := 712) (x := (0, 0, 0, 0)) (w := none) rfl (fun _ => rfl) rfl ?_
  refine r_arg hG C hX hbl hB h0 hL 1 (by omega) (nx := 717) ⟨rfl, rfl, rfl, rfl, rfl⟩ rfl ?_
  refine r_arg hG C hX hbl hB h0 hL 2 (by omega) (nx := 722) ⟨rfl, rfl, rfl, rfl, rfl⟩ rfl ?_
  refine r_call hG C hR (j := 73) (nx := 725) (x := (81, 3, 110, 0)) (w := none) (as := [(110, 82), (0, la_x xs (i + 1)), (0, la_x xs (i + 2))]) (rest := [(0, z)]) (z := z) rfl (fun _ => rfl) e2 ?_
  exact r_eq hG C (q := 956) (nx := 728) (x := (1681, 0, 0, 0)) (w := none) rfl rfl (gn _ _ hI2)
theorem la_c13 {ls : Array Slot} {p : Program} {l : Launch} {e : Env} {R : Room} {s : State} {m : MethodId} {args : Array Value} {below : List Frame} {meth : Method} {c : Code} {Q : State → Prop} {D : va_G} {B0 : Nat} {ka : Nat → Nat} {vF : Value} {n0 c0 s0 : Nat} {ad0 : Nat → Nat} {nf : Nat} {G : am_S → Prop} {b Ls i : Nat} {xs : Nat → Int32} (hG : G = la_Go ls p l e R s m args below meth c Q D B0 ka vF true 277 n0 c0 s0 ad0 nf) (C : am_Cx p s m args c 277 B0 ka vF) (hR : am_Rm R 150 c0 s0 n0 nf) (hX : va_X b Ls xs s s.heap) (hbl : b < s.heap.size) (hB : B0 = s.heap.size) (h0 : ls[0]? = some (.val (.ref b))) (hL : Ls ≤ 3072) (hi : i + 6 ≤ Ls) {σ : am_M} {n t : Nat} (hI : mx_Inv t n σ) (ht : t < 1000) (gn : ∀ σ' n', mx_Inv (t + 1) n' σ' → G (1681, la_L i, [], σ', n')) : G (730, la_L i, [], σ, n) := by
  obtain ⟨z, σ1, σ2, n2, e1, e2, hI2⟩ := join_c hI ht 143 (la_x xs (i + 1)) (la_x xs (i + 2)) (la_x xs (i + 3))
  refine r_aload hG C (j := 1) (t := 109) (z := 0) (nx := 731) (x := (0, 0, 0, 0)) (w := none) rfl (fun _ => rfl) rfl ?_
  refine r_arg hG C hX hbl hB h0 hL 1 (by omega) (nx := 736) ⟨rfl, rfl, rfl, rfl, rfl⟩ rfl ?_
  refine r_arg hG C hX hbl hB h0 hL 2 (by omega) (nx := 741) ⟨rfl, rfl, rfl, rfl, rfl⟩ rfl ?_
  refine r_arg hG C hX hbl hB h0 hL 3 (by omega) (nx := 746) ⟨rfl, rfl, rfl, rfl, rfl⟩ rfl ?_
  refine r_call hG C hR (j := 74) (nx := 749) (x := (83, 4, 109, 0)) (w := none) (as := [(109, 0), (0, la_x xs (i + 1)), (0, la_x xs (i + 2)), (0, la_x xs (i + 3))]) (rest := []) (z := z) rfl (fun _ => rfl) e1 ?_
  refine r_aload hG C (j := 2) (t := 110) (z := 82) (nx := 750) (x := (0, 0, 0, 0)) (w := none) rfl (fun _ => rfl) rfl ?_
  refine r_arg hG C hX hbl hB h0 hL 1 (by omega) (nx := 755) ⟨rfl, rfl, rfl, rfl, rfl⟩ rfl ?_
  refine r_arg hG C hX hbl hB h0 hL 2 (by omega) (nx := 760) ⟨rfl, rfl, rfl, rfl, rfl⟩ rfl ?_
  refine r_arg hG C hX hbl hB h0 hL 3 (by omega) (nx := 765) ⟨rfl, rfl, rfl, rfl, rfl⟩ rfl ?_
  refine r_call hG C hR (j := 77) (nx := 768) (x := (85, 4, 110, 0)) (w := none) (as := [(110, 82), (0, la_x xs (i + 1)), (0, la_x xs (i + 2)), (0, la_x xs (i + 3))]) (rest := [(0, z)]) (z := z) rfl (fun _ => rfl) e2 ?_
  exact r_eq hG C (q := 913) (nx := 771) (x := (1681, 0, 0, 0)) (w := none) rfl rfl (gn _ _ hI2)
theorem la_c14 {ls : Array Slot} {p : Program} {l : Launch} {e : Env} {R : Room} {s : State} {m : MethodId} {args : Array Value} {below : List Frame} {meth : Method} {c : Code} {Q : State → Prop} {D : va_G} {B0 : Nat} {ka : Nat → Nat} {vF : Value} {n0 c0 s0 : Nat} {ad0 : Nat → Nat} {nf : Nat} {G : am_S → Prop} {b Ls i : Nat} {xs : Nat → Int32} (hG : G = la_Go ls p l e R s m args below meth c Q D B0 ka vF true 277 n0 c0 s0 ad0 nf) (C : am_Cx p s m args c 277 B0 ka vF) (hR : am_Rm R 150 c0 s0 n0 nf) (hX : va_X b Ls xs s s.heap) (hbl : b < s.heap.size) (hB : B0 = s.heap.size) (h0 : ls[0]? = some (.val (.ref b))) (hL : Ls ≤ 3072) (hi : i + 6 ≤ Ls) {σ : am_M} {n t : Nat} (hI : mx_Inv t n σ) (ht : t < 1000) (gn : ∀ σ' n', mx_Inv (t + 1) n' σ' → G (1681, la_L i, [], σ', n')) : G (773, la_L i, [], σ, n) := by
  obtain ⟨z, σ1, σ2, n2, e1, e2, hI2⟩ := half_c hI ht 143 (la_x xs (i + 1)) (la_x xs (i + 2)) (la_x xs (i + 3))
  refine r_aload hG C (j := 1) (t := 109) (z := 0) (nx := 774) (x := (0, 0, 0, 0)) (w := none) rfl (fun _ => rfl) rfl ?_
  refine r_arg hG C hX hbl hB h0 hL 1 (by omega) (nx := 779) ⟨rfl, rfl, rfl, rfl, rfl⟩ rfl ?_
  refine r_arg hG C hX hbl hB h0 hL 2 (by omega) (nx := 784) ⟨rfl, rfl, rfl, rfl, rfl⟩ rfl ?_
  refine r_arg hG C hX hbl hB h0 hL 3 (by omega) (nx := 789) ⟨rfl, rfl, rfl, rfl, rfl⟩ rfl ?_
  refine r_call hG C hR (j := 78) (nx := 792) (x := (86, 4, 109, 0)) (w := none) (as := [(109, 0), (0, la_x xs (i + 1)), (0, la_x xs (i + 2)), (0, la_x xs (i + 3))]) (rest := []) (z := z) rfl (fun _ => rfl) e1 ?_
  refine r_aload hG C (j := 2) (t := 110) (z := 82) (nx := 793) (x := (0, 0, 0, 0)) (w := none) rfl (fun _ => rfl) rfl ?_
  refine r_arg hG C hX hbl hB h0 hL 1 (by omega) (nx := 798) ⟨rfl, rfl, rfl, rfl, rfl⟩ rfl ?_
  refine r_arg hG C hX hbl hB h0 hL 2 (by omega) (nx := 803) ⟨rfl, rfl, rfl, rfl, rfl⟩ rfl ?_
  refine r_arg hG C hX hbl hB h0 hL 3 (by omega) (nx := 808) ⟨rfl, rfl, rfl, rfl, rfl⟩ rfl ?_
  refine r_call hG C hR (j := 81) (nx := 811) (x := (87, 4, 110, 0)) (w := none) (as := [(110, 82), (0, la_x xs (i + 1)), (0, la_x xs (i + 2)), (0, la_x xs (i + 3))]) (rest := [(0, z)]) (z := z) rfl (fun _ => rfl) e2 ?_
  exact r_eq hG C (q := 870) (nx := 814) (x := (1681, 0, 0, 0)) (w := none) rfl rfl (gn _ _ hI2)
theorem la_c15 {ls : Array Slot} {p : Program} {l : Launch} {e : Env} {R : Room} {s : State} {m : MethodId} {args : Array Value} {below : List Frame} {meth : Method} {c : Code} {Q : State → Prop} {D : va_G} {B0 : Nat} {ka : Nat → Nat} {vF : Value} {n0 c0 s0 : Nat} {ad0 : Nat → Nat} {nf : Nat} {G : am_S → Prop} {b Ls i : Nat} {xs : Nat → Int32} (hG : G = la_Go ls p l e R s m args below meth c Q D B0 ka vF true 277 n0 c0 s0 ad0 nf) (C : am_Cx p s m args c 277 B0 ka vF) (hR : am_Rm R 150 c0 s0 n0 nf) (hX : va_X b Ls xs s s.heap) (hbl : b < s.heap.size) (hB : B0 = s.heap.size) (h0 : ls[0]? = some (.val (.ref b))) (hL : Ls ≤ 3072) (hi : i + 6 ≤ Ls) {σ : am_M} {n t : Nat} (hI : mx_Inv t n σ) (ht : t < 1000) (gn : ∀ σ' n', mx_Inv (t + 1) n' σ' → G (1681, la_L i, [], σ', n')) : G (816, la_L i, [], σ, n) := by
  obtain ⟨z, σ1, σ2, n2, e1, e2, hI2⟩ := read_c hI ht 0 (la_x xs (i + 1))
  refine r_aload hG C (j := 1) (t := 109) (z := 0) (nx := 817) (x := (0, 0, 0, 0)) (w := none) rfl (fun _ => rfl) rfl ?_
  refine r_arg hG C hX hbl hB h0 hL 1 (by omega) (nx := 822) ⟨rfl, rfl, rfl, rfl, rfl⟩ rfl ?_
  refine r_call hG C hR (j := 82) (nx := 825) (x := (110, 2, 109, 0)) (w := none) (as := [(109, 0), (0, la_x xs (i + 1))]) (rest := []) (z := z) rfl (fun _ => rfl) e1 ?_
  refine r_aload hG C (j := 2) (t := 110) (z := 82) (nx := 826) (x := (0, 0, 0, 0)) (w := none) rfl (fun _ => rfl) rfl ?_
  refine r_arg hG C hX hbl hB h0 hL 1 (by omega) (nx := 831) ⟨rfl, rfl, rfl, rfl, rfl⟩ rfl ?_
  refine r_call hG C hR (j := 85) (nx := 834) (x := (115, 2, 110, 0)) (w := none) (as := [(110, 82), (0, la_x xs (i + 1))]) (rest := [(0, z)]) (z := z) rfl (fun _ => rfl) e2 ?_
  exact r_eq hG C (q := 847) (nx := 837) (x := (1681, 0, 0, 0)) (w := none) rfl rfl (gn _ _ hI2)
theorem la_c16 {ls : Array Slot} {p : Program} {l : Launch} {e : Env} {R : Room} {s : State} {m : MethodId} {args : Array Value} {below : List Frame} {meth : Method} {c : Code} {Q : State → Prop} {D : va_G} {B0 : Nat} {ka : Nat → Nat} {vF : Value} {n0 c0 s0 : Nat} {ad0 : Nat → Nat} {nf : Nat} {G : am_S → Prop} {b Ls i : Nat} {xs : Nat → Int32} (hG : G = la_Go ls p l e R s m args below meth c Q D B0 ka vF true 277 n0 c0 s0 ad0 nf) (C : am_Cx p s m args c 277 B0 ka vF) (hR : am_Rm R 150 c0 s0 n0 nf) (hX : va_X b Ls xs s s.heap) (hbl : b < s.heap.size) (hB : B0 = s.heap.size) (h0 : ls[0]? = some (.val (.ref b))) (hL : Ls ≤ 3072) (hi : i + 6 ≤ Ls) {σ : am_M} {n t : Nat} (hI : mx_Inv t n σ) (ht : t < 1000) (gn : ∀ σ' n', mx_Inv (t + 1) n' σ' → G (1681, la_L i, [], σ', n')) : G (839, la_L i, [], σ, n) := by
  obtain ⟨z, σ1, σ2, n2, e1, e2, hI2⟩ := fault_c hI 147
  refine r_aload hG C (j := 1) (t := 109) (z := 0) (nx := 840) (x := (0, 0, 0, 0)) (w := none) rfl (fun _ => rfl) rfl ?_
  refine r_call hG C hR (j := 86) (nx := 843) (x := (116, 1, 109, 0)) (w := none) (as := [(109, 0)]) (rest := []) (z := z) rfl (fun _ => rfl) e1 ?_
  refine r_aload hG C (j := 2) (t := 110) (z := 82) (nx := 844) (x := (0, 0, 0, 0)) (w := none) rfl (fun _ => rfl) rfl ?_
  refine r_call hG C hR (j := 90) (nx := 847) (x := (117, 1, 110, 0)) (w := none) (as := [(110, 82)]) (rest := [(0, z)]) (z := z) rfl (fun _ => rfl) e2 ?_
  exact r_eq hG C (q := 834) (nx := 850) (x := (1681, 0, 0, 0)) (w := none) rfl rfl (gn _ _ hI2)
theorem la_c17 {ls : Array Slot} {p : Program} {l : Launch} {e : Env} {R : Room} {s : State} {m : MethodId} {args : Array Value} {below : List Frame} {meth : Method} {c : Code} {Q : State → Prop} {D : va_G} {B0 : Nat} {ka : Nat → Nat} {vF : Value} {n0 c0 s0 : Nat} {ad0 : Nat → Nat} {nf : Nat} {G : am_S → Prop} {b Ls i : Nat} {xs : Nat → Int32} (hG : G = la_Go ls p l e R s m args below meth c Q D B0 ka vF true 277 n0 c0 s0 ad0 nf) (C : am_Cx p s m args c 277 B0 ka vF) (hR : am_Rm R 150 c0 s0 n0 nf) (hX : va_X b Ls xs s s.heap) (hbl : b < s.heap.size) (hB : B0 = s.heap.size) (h0 : ls[0]? = some (.val (.ref b))) (hL : Ls ≤ 3072) (hi : i + 6 ≤ Ls) {σ : am_M} {n t : Nat} (hI : mx_Inv t n σ) (ht : t < 1000) (gn : ∀ σ' n', mx_Inv (t + 1) n' σ' → G (1681, la_L i, [], σ', n')) : G (852, la_L i, [], σ, n) := by
  obtain ⟨z, σ1, σ2, n2, e1, e2, hI2⟩ := same_c hI ht 144 (la_x xs (i + 1)) (la_x xs (i + 2))
  refine r_aload hG C (j := 1) (t := 109) (z := 0) (nx := 853) (x := (0, 0, 0, 0)) (w := none) rfl (fun _ => rfl) rfl ?_
  refine r_arg hG C hX hbl hB h0 hL 1 (by omega) (nx := 858) ⟨rfl, rfl, rfl, rfl, rfl⟩ rfl ?_
  refine r_arg hG C hX hbl hB h0 hL 2 (by omega) (nx := 863) ⟨rfl, rfl, rfl, rfl, rfl⟩ rfl ?_
  refine r_call hG C hR (j := 91) (nx := 866) (x := (121, 3, 109, 0)) (w := none) (as := [(109, 0), (0, la_x xs (i + 1)), (0, la_x xs (i + 2))]) (rest := []) (z := z) rfl (fun _ => rfl) e1 ?_
  refine r_aload hG C (j := 2) (t := 110) (z := 82) (nx := 867) (x := (0, 0, 0, 0)) (w := none) rfl (fun _ => rfl) rfl ?_
  refine r_arg hG C hX hbl hB h0 hL 1 (by omega) (nx := 872) ⟨rfl, rfl, rfl, rfl, rfl⟩ rfl ?_
  refine r_arg hG C hX hbl hB h0 hL 2 (by omega) (nx := 877) ⟨rfl, rfl, rfl, rfl, rfl⟩ rfl ?_
  refine r_call hG C hR (j := 94) (nx := 880) (x := (123, 3, 110, 0)) (w := none) (as := [(110, 82), (0, la_x xs (i + 1)), (0, la_x xs (i + 2))]) (rest := [(0, z)]) (z := z) rfl (fun _ => rfl) e2 ?_
  exact r_eq hG C (q := 801) (nx := 883) (x := (1681, 0, 0, 0)) (w := none) rfl rfl (gn _ _ hI2)
theorem la_c18 {ls : Array Slot} {p : Program} {l : Launch} {e : Env} {R : Room} {s : State} {m : MethodId} {args : Array Value} {below : List Frame} {meth : Method} {c : Code} {Q : State → Prop} {D : va_G} {B0 : Nat} {ka : Nat → Nat} {vF : Value} {n0 c0 s0 : Nat} {ad0 : Nat → Nat} {nf : Nat} {G : am_S → Prop} {b Ls i : Nat} {xs : Nat → Int32} (hG : G = la_Go ls p l e R s m args below meth c Q D B0 ka vF true 277 n0 c0 s0 ad0 nf) (C : am_Cx p s m args c 277 B0 ka vF) (hR : am_Rm R 150 c0 s0 n0 nf) (hX : va_X b Ls xs s s.heap) (hbl : b < s.heap.size) (hB : B0 = s.heap.size) (h0 : ls[0]? = some (.val (.ref b))) (hL : Ls ≤ 3072) (hi : i + 6 ≤ Ls) {σ : am_M} {n t : Nat} (hI : mx_Inv t n σ) (ht : t < 1000) (gn : ∀ σ' n', mx_Inv (t + 1) n' σ' → G (1681, la_L i, [], σ', n')) : G (885, la_L i, [], σ, n) := by
  obtain ⟨z, σ1, σ2, n2, e1, e2, hI2⟩ := groupOf_c hI 147 (la_x xs (i + 1))
  refine r_aload hG C (j := 1) (t := 109) (z := 0) (nx := 886) (x := (0, 0, 0, 0)) (w := none) rfl (fun _ => rfl) rfl ?_
  refine r_arg hG C hX hbl hB h0 hL 1 (by omega) (nx := 891) ⟨rfl, rfl, rfl, rfl, rfl⟩ rfl ?_
  refine r_call hG C hR (j := 95) (nx := 894) (x := (124, 2, 109, 0)) (w := none) (as := [(109, 0), (0, la_x xs (i + 1))]) (rest := []) (z := z) rfl (fun _ => rfl) e1 ?_
  refine r_aload hG C (j := 2) (t := 110) (z := 82) (nx := 895) (x := (0, 0, 0, 0)) (w := none) rfl (fun _ => rfl) rfl ?_
  refine r_arg hG C hX hbl hB h0 hL 1 (by omega) (nx := 900) ⟨rfl, rfl, rfl, rfl, rfl⟩ rfl ?_
  refine r_call hG C hR (j := 98) (nx := 903) (x := (125, 2, 110, 0)) (w := none) (as := [(110, 82), (0, la_x xs (i + 1))]) (rest := [(0, z)]) (z := z) rfl (fun _ => rfl) e2 ?_
  exact r_eq hG C (q := 778) (nx := 906) (x := (1681, 0, 0, 0)) (w := none) rfl rfl (gn _ _ hI2)
theorem la_c19 {ls : Array Slot} {p : Program} {l : Launch} {e : Env} {R : Room} {s : State} {m : MethodId} {args : Array Value} {below : List Frame} {meth : Method} {c : Code} {Q : State → Prop} {D : va_G} {B0 : Nat} {ka : Nat → Nat} {vF : Value} {n0 c0 s0 : Nat} {ad0 : Nat → Nat} {nf : Nat} {G : am_S → Prop} {b Ls i : Nat} {xs : Nat → Int32} (hG : G = la_Go ls p l e R s m args below meth c Q D B0 ka vF true 277 n0 c0 s0 ad0 nf) (C : am_Cx p s m args c 277 B0 ka vF) (hR : am_Rm R 150 c0 s0 n0 nf) (hX : va_X b Ls xs s s.heap) (hbl : b < s.heap.size) (hB : B0 = s.heap.size) (h0 : ls[0]? = some (.val (.ref b))) (hL : Ls ≤ 3072) (hi : i + 6 ≤ Ls) {σ : am_M} {n t : Nat} (hI : mx_Inv t n σ) (ht : t < 1000) (gn : ∀ σ' n', mx_Inv (t + 1) n' σ' → G (1681, la_L i, [], σ', n')) : G (908, la_L i, [], σ, n) := by
  obtain ⟨z, σ1, σ2, n2, e1, e2, hI2⟩ := group_c hI 145 (la_x xs (i + 1)) (la_x xs (i + 2))
  refine r_aload hG C (j := 1) (t := 109) (z := 0) (nx := 909) (x := (0, 0, 0, 0)) (w := none) rfl (fun _ => rfl) rfl ?_
  refine r_arg hG C hX hbl hB h0 hL 1 (by omega) (nx := 914) ⟨rfl, rfl, rfl, rfl, rfl⟩ rfl ?_
  refine r_arg hG C hX hbl hB h0 hL 2 (by omega) (nx := 919) ⟨rfl, rfl, rfl, rfl, rfl⟩ rfl ?_
  refine r_call hG C hR (j := 99) (nx := 922) (x := (132, 3, 109, 0)) (w := none) (as := [(109, 0), (0, la_x xs (i + 1)), (0, la_x xs (i + 2))]) (rest := []) (z := z) rfl (fun _ => rfl) e1 ?_
  refine r_aload hG C (j := 2) (t := 110) (z := 82) (nx := 923) (x := (0, 0, 0, 0)) (w := none) rfl (fun _ => rfl) rfl ?_
  refine r_arg hG C hX hbl hB h0 hL 1 (by omega) (nx := 928) ⟨rfl, rfl, rfl, rfl, rfl⟩ rfl ?_
  refine r_arg hG C hX hbl hB h0 hL 2 (by omega) (nx := 933) ⟨rfl, rfl, rfl, rfl, rfl⟩ rfl ?_
  refine r_call hG C hR (j := 102) (nx := 936) (x := (133, 3, 110, 0)) (w := none) (as := [(110, 82), (0, la_x xs (i + 1)), (0, la_x xs (i + 2))]) (rest := [(0, z)]) (z := z) rfl (fun _ => rfl) e2 ?_
  exact r_eq hG C (q := 745) (nx := 939) (x := (1681, 0, 0, 0)) (w := none) rfl rfl (gn _ _ hI2)
theorem la_c20 {ls : Array Slot} {p : Program} {l : Launch} {e : Env} {R : Room} {s : State} {m : MethodId} {args : Array Value} {below : List Frame} {meth : Method} {c : Code} {Q : State → Prop} {D : va_G} {B0 : Nat} {ka : Nat → Nat} {vF : Value} {n0 c0 s0 : Nat} {ad0 : Nat → Nat} {nf : Nat} {G : am_S → Prop} {b Ls i : Nat} {xs : Nat → Int32} (hG : G = la_Go ls p l e R s m args below meth c Q D B0 ka vF true 277 n0 c0 s0 ad0 nf) (C : am_Cx p s m args c 277 B0 ka vF) (hR : am_Rm R 150 c0 s0 n0 nf) (hX : va_X b Ls xs s s.heap) (hbl : b < s.heap.size) (hB : B0 = s.heap.size) (h0 : ls[0]? = some (.val (.ref b))) (hL : Ls ≤ 3072) (hi : i + 6 ≤ Ls) {σ : am_M} {n t : Nat} (hI : mx_Inv t n σ) (ht : t < 1000) (gn : ∀ σ' n', mx_Inv (t + 1) n' σ' → G (1681, la_L i, [], σ', n')) : G (941, la_L i, [], σ, n) := by
  obtain ⟨z, σ1, σ2, n2, e1, e2, hI2⟩ := expression_c hI 147 (la_x xs (i + 1)) (la_x xs (i + 2))
  refine r_aload hG C (j := 1) (t := 109) (z := 0) (nx := 942) (x := (0, 0, 0, 0)) (w := none) rfl (fun _ => rfl) rfl ?_
  refine r_arg hG C hX hbl hB h0 hL 1 (by omega) (nx := 947) ⟨rfl, rfl, rfl, rfl, rfl⟩ rfl ?_
  refine r_arg hG C hX hbl hB h0 hL 2 (by omega) (nx := 952) ⟨rfl, rfl, rfl, rfl, rfl⟩ rfl ?_
  refine r_call hG C hR (j := 103) (nx := 955) (x := (134, 3, 109, 0)) (w := none) (as := [(109, 0), (0, la_x xs (i + 1)), (0, la_x xs (i + 2))]) (rest := []) (z := z) rfl (fun _ => rfl) e1 ?_
  refine r_aload hG C (j := 2) (t := 110) (z := 82) (nx := 956) (x := (0, 0, 0, 0)) (w := none) rfl (fun _ => rfl) rfl ?_
  refine r_arg hG C hX hbl hB h0 hL 1 (by omega) (nx := 961) ⟨rfl, rfl, rfl, rfl, rfl⟩ rfl ?_
  refine r_arg hG C hX hbl hB h0 hL 2 (by omega) (nx := 966) ⟨rfl, rfl, rfl, rfl, rfl⟩ rfl ?_
  refine r_call hG C hR (j := 106) (nx := 969) (x := (135, 3, 110, 0)) (w := none) (as := [(110, 82), (0, la_x xs (i + 1)), (0, la_x xs (i + 2))]) (rest := [(0, z)]) (z := z) rfl (fun _ => rfl) e2 ?_
  exact r_eq hG C (q := 712) (nx := 972) (x := (1681, 0, 0, 0)) (w := none) rfl rfl (gn _ _ hI2)
theorem la_c21 {ls : Array Slot} {p : Program} {l : Launch} {e : Env} {R : Room} {s : State} {m : MethodId} {args : Array Value} {below : List Frame} {meth : Method} {c : Code} {Q : State → Prop} {D : va_G} {B0 : Nat} {ka : Nat → Nat} {vF : Value} {n0 c0 s0 : Nat} {ad0 : Nat → Nat} {nf : Nat} {G : am_S → Prop} {b Ls i : Nat} {xs : Nat → Int32} (hG : G = la_Go ls p l e R s m args below meth c Q D B0 ka vF true 277 n0 c0 s0 ad0 nf) (C : am_Cx p s m args c 277 B0 ka vF) (hR : am_Rm R 150 c0 s0 n0 nf) (hX : va_X b Ls xs s s.heap) (hbl : b < s.heap.size) (hB : B0 = s.heap.size) (h0 : ls[0]? = some (.val (.ref b))) (hL : Ls ≤ 3072) (hi : i + 6 ≤ Ls) {σ : am_M} {n t : Nat} (hI : mx_Inv t n σ) (ht : t < 1000) (gn : ∀ σ' n', mx_Inv (t + 1) n' σ' → G (1681, la_L i, [], σ', n')) : G (974, la_L i, [], σ, n) := by
  obtain ⟨z, σ1, σ2, n2, e1, e2, hI2⟩ := explore_c hI ht 143 (la_x xs (i + 1))
  refine r_aload hG C (j := 1) (t := 109) (z := 0) (nx := 975) (x := (0, 0, 0, 0)) (w := none) rfl (fun _ => rfl) rfl ?_
  refine r_arg hG C hX hbl hB h0 hL 1 (by omega) (nx := 980) ⟨rfl, rfl, rfl, rfl, rfl⟩ rfl ?_
  refine r_call hG C hR (j := 107) (nx := 983) (x := (146, 2, 109, 0)) (w := none) (as := [(109, 0), (0, la_x xs (i + 1))]) (rest := []) (z := z) rfl (fun _ => rfl) e1 ?_
  refine r_aload hG C (j := 2) (t := 110) (z := 82) (nx := 984) (x := (0, 0, 0, 0)) (w := none) rfl (fun _ => rfl) rfl ?_
  refine r_arg hG C hX hbl hB h0 hL 1 (by omega) (nx := 989) ⟨rfl, rfl, rfl, rfl, rfl⟩ rfl ?_
  refine r_call hG C hR (j := 110) (nx := 992) (x := (154, 2, 110, 0)) (w := none) (as := [(110, 82), (0, la_x xs (i + 1))]) (rest := [(0, z)]) (z := z) rfl (fun _ => rfl) e2 ?_
  exact r_eq hG C (q := 689) (nx := 995) (x := (1681, 0, 0, 0)) (w := none) rfl rfl (gn _ _ hI2)
