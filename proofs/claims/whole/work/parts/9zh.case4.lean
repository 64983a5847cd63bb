/-! THE LAW'S BODY: its cases -/
theorem la_c33 {ls : Array Slot} {p : Program} {l : Launch} {e : Env} {R : Room} {s : State} {m : MethodId} {args : Array Value} {below : List Frame} {meth : Method} {c : Code} {Q : State → Prop} {D : va_G} {B0 : Nat} {ka : Nat → Nat} {vF : Value} {n0 c0 s0 : Nat} {ad0 : Nat → Nat} {nf : Nat} {G : am_S → Prop} {b Ls i : Nat} {xs : Nat → Int32} (hG : G = la_Go ls p l e R s m args below meth c Q D B0 ka vF true 277 n0 c0 s0 ad0 nf) (C : am_Cx p s m args c 277 B0 ka vF) (hR : am_Rm R 150 c0 s0 n0 nf) (hX : va_X b Ls xs s s.heap) (hbl : b < s.heap.size) (hB : B0 = s.heap.size) (h0 : ls[0]? = some (.val (.ref b))) (hL : Ls ≤ 3072) (hi : i + 6 ≤ Ls) {σ : am_M} {n t : Nat} (hI : mx_Inv t n σ) (ht : t < 1000) (gn : ∀ σ' n', mx_Inv (t + 1) n' σ' → G (1681, la_L i, [], σ', n')) : G (1429, la_L i, [], σ, n) := by
  obtain ⟨z, σ1, σ2, n2, e1, e2, hI2⟩ := planCost_c hI 147 (la_x xs (i + 1))
  refine r_aload hG C (j := 1) (t := 109) (z := 0) (nx := 1430) (x := (0, 0, 0, 0)) (w := none) rfl (fun _ => rfl) rfl ?_
  refine r_arg hG C hX hbl hB h0 hL 1 (by omega) (nx := 1435) ⟨rfl, rfl, rfl, rfl, rfl⟩ rfl ?_
  refine r_call hG C hR (j := 158) (nx := 1438) (x := (240, 2, 109, 1)) (w := none) (as := [(109, 0), (0, la_x xs (i + 1))]) (rest := []) (z := z) rfl (fun _ => rfl) e1 ?_
  refine r_aload hG C (j := 2) (t := 110) (z := 82) (nx := 1439) (x := (0, 0, 0, 0)) (w := none) rfl (fun _ => rfl) rfl ?_
  refine r_arg hG C hX hbl hB h0 hL 1 (by omega) (nx := 1444) ⟨rfl, rfl, rfl, rfl, rfl⟩ rfl ?_
  refine r_call hG C hR (j := 162) (nx := 1447) (x := (241, 2, 110, 1)) (w := none) (as := [(110, 82), (0, la_x xs (i + 1))]) (rest := [(1, z)]) (z := z) rfl (fun _ => rfl) e2 ?_
  refine r_lcmp hG C (nx := 1448) (x := (0, 0, 0, 0)) (w := none) rfl ?_
  exact r_z hG C (q := 233) (nx := 1451) (x := (1681, 0, 0, 0)) (w := none) rfl (fun _ => gn _ _ hI2) (fun q => absurd (la_cmp z) q)
theorem la_c34 {ls : Array Slot} {p : Program} {l : Launch} {e : Env} {R : Room} {s : State} {m : MethodId} {args : Array Value} {below : List Frame} {meth : Method} {c : Code} {Q : State → Prop} {D : va_G} {B0 : Nat} {ka : Nat → Nat} {vF : Value} {n0 c0 s0 : Nat} {ad0 : Nat → Nat} {nf : Nat} {G : am_S → Prop} {b Ls i : Nat} {xs : Nat → Int32} (hG : G = la_Go ls p l e R s m args below meth c Q D B0 ka vF true 277 n0 c0 s0 ad0 nf) (C : am_Cx p s m args c 277 B0 ka vF) (hR : am_Rm R 150 c0 s0 n0 nf) (hX : va_X b Ls xs s s.heap) (hbl : b < s.heap.size) (hB : B0 = s.heap.size) (h0 : ls[0]? = some (.val (.ref b))) (hL : Ls ≤ 3072) (hi : i + 6 ≤ Ls) {σ : am_M} {n t : Nat} (hI : mx_Inv t n σ) (ht : t < 1000) (gn : ∀ σ' n', mx_Inv (t + 1) n' σ' → G (1681, la_L i, [], σ', n')) : G (1453, la_L i, [], σ, n) := by
  obtain ⟨z, σ1, σ2, n2, e1, e2, hI2⟩ := spell_c hI 0 (la_x xs (i + 1))
  refine r_aload hG C (j := 1) (t := 109) (z := 0) (nx := 1454) (x := (0, 0, 0, 0)) (w := none) rfl (fun _ => rfl) rfl ?_
  refine r_arg hG C hX hbl hB h0 hL 1 (by omega) (nx := 1459) ⟨rfl, rfl, rfl, rfl, rfl⟩ rfl ?_
  refine r_call hG C hR (j := 163) (nx := 1462) (x := (246, 2, 109, 0)) (w := none) (as := [(109, 0), (0, la_x xs (i + 1))]) (rest := []) (z := z) rfl (fun _ => rfl) e1 ?_
  refine r_aload hG C (j := 2) (t := 110) (z := 82) (nx := 1463) (x := (0, 0, 0, 0)) (w := none) rfl (fun _ => rfl) rfl ?_
  refine r_arg hG C hX hbl hB h0 hL 1 (by omega) (nx := 1468) ⟨rfl, rfl, rfl, rfl, rfl⟩ rfl ?_
  refine r_call hG C hR (j := 166) (nx := 1471) (x := (249, 2, 110, 0)) (w := none) (as := [(110, 82), (0, la_x xs (i + 1))]) (rest := [(0, z)]) (z := z) rfl (fun _ => rfl) e2 ?_
  exact r_eq hG C (q := 210) (nx := 1474) (x := (1681, 0, 0, 0)) (w := none) rfl rfl (gn _ _ hI2)
theorem la_c35 {ls : Array Slot} {p : Program} {l : Launch} {e : Env} {R : Room} {s : State} {m : MethodId} {args : Array Value} {below : List Frame} {meth : Method} {c : Code} {Q : State → Prop} {D : va_G} {B0 : Nat} {ka : Nat → Nat} {vF : Value} {n0 c0 s0 : Nat} {ad0 : Nat → Nat} {nf : Nat} {G : am_S → Prop} {b Ls i : Nat} {xs : Nat → Int32} (hG : G = la_Go ls p l e R s m args below meth c Q D B0 ka vF true 277 n0 c0 s0 ad0 nf) (C : am_Cx p s m args c 277 B0 ka vF) (hR : am_Rm R 150 c0 s0 n0 nf) (hX : va_X b Ls xs s s.heap) (hbl : b < s.heap.size) (hB : B0 = s.heap.size) (h0 : ls[0]? = some (.val (.ref b))) (hL : Ls ≤ 3072) (hi : i + 6 ≤ Ls) {σ : am_M} {n t : Nat} (hI : mx_Inv t n σ) (ht : t < 1000) (gn : ∀ σ' n', mx_Inv (t + 1) n' σ' → G (1681, la_L i, [], σ', n')) : G (1476, la_L i, [], σ, n) := by
  obtain ⟨z, σ1, σ2, n2, e1, e2, hI2⟩ := trees_c hI 145 (la_x xs (i + 1)) (la_x xs (i + 2))
  refine r_aload hG C (j := 1) (t := 109) (z := 0) (nx := 1477) (x := (0, 0, 0, 0)) (w := none) rfl (fun _ => rfl) rfl ?_
  refine r_arg hG C hX hbl hB h0 hL 1 (by omega) (nx := 1482) ⟨rfl, rfl, rfl, rfl, rfl⟩ rfl ?_
  refine r_arg hG C hX hbl hB h0 hL 2 (by omega) (nx := 1487) ⟨rfl, rfl, rfl, rfl, rfl⟩ rfl ?_
  refine r_call hG C hR (j := 167) (nx := 1490) (x := (252, 3, 109, 0)) (w := none) (as := [(109, 0), (0, la_x xs (i + 1)), (0, la_x xs (i + 2))]) (rest := []) (z := z) rfl (fun _ => rfl) e1 ?_
  refine r_aload hG C (j := 2) (t := 110) (z := 82) (nx := 1491) (x := (0, 0, 0, 0)) (w := none) rfl (fun _ => rfl) rfl ?_
  refine r_arg hG C hX hbl hB h0 hL 1 (by omega) (nx := 1496) ⟨rfl, rfl, rfl, rfl, rfl⟩ rfl ?_
  refine r_arg hG C hX hbl hB h0 hL 2 (by omega) (nx := 1501) ⟨rfl, rfl, rfl, rfl, rfl⟩ rfl ?_
  refine r_call hG C hR (j := 170) (nx := 1504) (x := (253, 3, 110, 0)) (w := none) (as := [(110, 82), (0, la_x xs (i + 1)), (0, la_x xs (i + 2))]) (rest := [(0, z)]) (z := z) rfl (fun _ => rfl) e2 ?_
  exact r_eq hG C (q := 177) (nx := 1507) (x := (1681, 0, 0, 0)) (w := none) rfl rfl (gn _ _ hI2)
theorem la_c36 {ls : Array Slot} {p : Program} {l : Launch} {e : Env} {R : Room} {s : State} {m : MethodId} {args : Array Value} {below : List Frame} {meth : Method} {c : Code} {Q : State → Prop} {D : va_G} {B0 : Nat} {ka : Nat → Nat} {vF : Value} {n0 c0 s0 : Nat} {ad0 : Nat → Nat} {nf : Nat} {G : am_S → Prop} {b Ls i : Nat} {xs : Nat → Int32} (hG : G = la_Go ls p l e R s m args below meth c Q D B0 ka vF true 277 n0 c0 s0 ad0 nf) (C : am_Cx p s m args c 277 B0 ka vF) (hR : am_Rm R 150 c0 s0 n0 nf) (hX : va_X b Ls xs s s.heap) (hbl : b < s.heap.size) (hB : B0 = s.heap.size) (h0 : ls[0]? = some (.val (.ref b))) (hL : Ls ≤ 3072) (hi : i + 6 ≤ Ls) {σ : am_M} {n t : Nat} (hI : mx_Inv t n σ) (ht : t < 1000) (gn : ∀ σ' n', mx_Inv (t + 1) n' σ' → G (1681, la_L i, [], σ', n')) : G (1509, la_L i, [], σ, n) := by
  obtain ⟨z, σ1, σ2, n2, e1, e2, hI2⟩ := price_c hI 141 (la_x xs (i + 1)) (la_x xs (i + 2)) (la_x xs (i + 3)) (la_x xs (i + 4))
  refine r_aload hG C (j := 1) (t := 109) (z := 0) (nx := 1510) (x := (0, 0, 0, 0)) (w := none) rfl (fun _ => rfl) rfl ?_
  refine r_arg hG C hX hbl hB h0 hL 1 (by omega) (nx := 1515) ⟨rfl, rfl, rfl, rfl, rfl⟩ rfl ?_
  refine r_arg hG C hX hbl hB h0 hL 2 (by omega) (nx := 1520) ⟨rfl, rfl, rfl, rfl, rfl⟩ rfl ?_
  refine r_arg hG C hX hbl hB h0 hL 3 (by omega) (nx := 1525) ⟨rfl, rfl, rfl, rfl, rfl⟩ rfl ?_
  refine r_arg hG C hX hbl hB h0 hL 4 (by omega) (nx := 1530) ⟨rfl, rfl, rfl, rfl, rfl⟩ rfl ?_
  refine r_call hG C hR (j := 171) (nx := 1533) (x := (255, 5, 109, 1)) (w := none) (as := [(109, 0), (0, la_x xs (i + 1)), (0, la_x xs (i + 2)), (0, la_x xs (i + 3)), (0, la_x xs (i + 4))]) (rest := []) (z := z) rfl (fun _ => rfl) e1 ?_
  refine r_aload hG C (j := 2) (t := 110) (z := 82) (nx := 1534) (x := (0, 0, 0, 0)) (w := none) rfl (fun _ => rfl) rfl ?_
  refine r_arg hG C hX hbl hB h0 hL 1 (by omega) (nx := 1539) ⟨rfl, rfl, rfl, rfl, rfl⟩ rfl ?_
  refine r_arg hG C hX hbl hB h0 hL 2 (by omega) (nx := 1544) ⟨rfl, rfl, rfl, rfl, rfl⟩ rfl ?_
  refine r_arg hG C hX hbl hB h0 hL 3 (by omega) (nx := 1549) ⟨rfl, rfl, rfl, rfl, rfl⟩ rfl ?_
  refine r_arg hG C hX hbl hB h0 hL 4 (by omega) (nx := 1554) ⟨rfl, rfl, rfl, rfl, rfl⟩ rfl ?_
  refine r_call hG C hR (j := 174) (nx := 1557) (x := (256, 5, 110, 1)) (w := none) (as := [(110, 82), (0, la_x xs (i + 1)), (0, la_x xs (i + 2)), (0, la_x xs (i + 3)), (0, la_x xs (i + 4))]) (rest := [(1, z)]) (z := z) rfl (fun _ => rfl) e2 ?_
  refine r_lcmp hG C (nx := 1558) (x := (0, 0, 0, 0)) (w := none) rfl ?_
  exact r_z hG C (q := 123) (nx := 1561) (x := (1681, 0, 0, 0)) (w := none) rfl (fun _ => gn _ _ hI2) (fun q => absurd (la_cmp z) q)
theorem la_c37 {ls : Array Slot} {p : Program} {l : Launch} {e : Env} {R : Room} {s : State} {m : MethodId} {args : Array Value} {below : List Frame} {meth : Method} {c : Code} {Q : State → Prop} {D : va_G} {B0 : Nat} {ka : Nat → Nat} {vF : Value} {n0 c0 s0 : Nat} {ad0 : Nat → Nat} {nf : Nat} {G : am_S → Prop} {b Ls i : Nat} {xs : Nat → Int32} (hG : G = la_Go ls p l e R s m args below meth c Q D B0 ka vF true 277 n0 c0 s0 ad0 nf) (C : am_Cx p s m args c 277 B0 ka vF) (hR : am_Rm R 150 c0 s0 n0 nf) (hX : va_X b Ls xs s s.heap) (hbl : b < s.heap.size) (hB : B0 = s.heap.size) (h0 : ls[0]? = some (.val (.ref b))) (hL : Ls ≤ 3072) (hi : i + 6 ≤ Ls) {σ : am_M} {n t : Nat} (hI : mx_Inv t n σ) (ht : t < 1000) (gn : ∀ σ' n', mx_Inv (t + 1) n' σ' → G (1681, la_L i, [], σ', n')) : G (1563, la_L i, [], σ, n) := by
  obtain ⟨z, σ1, σ2, n2, e1, e2, hI2⟩ := trace_c hI 147 (la_x xs (i + 1))
  refine r_aload hG C (j := 1) (t := 109) (z := 0) (nx := 1564) (x := (0, 0, 0, 0)) (w := none) rfl (fun _ => rfl) rfl ?_
  refine r_arg hG C hX hbl hB h0 hL 1 (by omega) (nx := 1569) ⟨rfl, rfl, rfl, rfl, rfl⟩ rfl ?_
  refine r_call hG C hR (j := 175) (nx := 1572) (x := (258, 2, 109, 0)) (w := none) (as := [(109, 0), (0, la_x xs (i + 1))]) (rest := []) (z := z) rfl (fun _ => rfl) e1 ?_
  refine r_aload hG C (j := 2) (t := 110) (z := 82) (nx := 1573) (x := (0, 0, 0, 0)) (w := none) rfl (fun _ => rfl) rfl ?_
  refine r_arg hG C hX hbl hB h0 hL 1 (by omega) (nx := 1578) ⟨rfl, rfl, rfl, rfl, rfl⟩ rfl ?_
  refine r_call hG C hR (j := 178) (nx := 1581) (x := (259, 2, 110, 0)) (w := none) (as := [(110, 82), (0, la_x xs (i + 1))]) (rest := [(0, z)]) (z := z) rfl (fun _ => rfl) e2 ?_
  exact r_eq hG C (q := 100) (nx := 1584) (x := (1681, 0, 0, 0)) (w := none) rfl rfl (gn _ _ hI2)
theorem la_c38 {ls : Array Slot} {p : Program} {l : Launch} {e : Env} {R : Room} {s : State} {m : MethodId} {args : Array Value} {below : List Frame} {meth : Method} {c : Code} {Q : State → Prop} {D : va_G} {B0 : Nat} {ka : Nat → Nat} {vF : Value} {n0 c0 s0 : Nat} {ad0 : Nat → Nat} {nf : Nat} {G : am_S → Prop} {b Ls i : Nat} {xs : Nat → Int32} (hG : G = la_Go ls p l e R s m args below meth c Q D B0 ka vF true 277 n0 c0 s0 ad0 nf) (C : am_Cx p s m args c 277 B0 ka vF) (hR : am_Rm R 150 c0 s0 n0 nf) (hX : va_X b Ls xs s s.heap) (hbl : b < s.heap.size) (hB : B0 = s.heap.size) (h0 : ls[0]? = some (.val (.ref b))) (hL : Ls ≤ 3072) (hi : i + 6 ≤ Ls) {σ : am_M} {n t : Nat} (hI : mx_Inv t n σ) (ht : t < 1000) (gn : ∀ σ' n', mx_Inv (t + 1) n' σ' → G (1681, la_L i, [], σ', n')) : G (1586, la_L i, [], σ, n) := by
  obtain ⟨z, σ1, σ2, n2, e1, e2, hI2⟩ := deal_c hI ht 143 (la_x xs (i + 1))
  refine r_aload hG C (j := 1) (t := 109) (z := 0) (nx := 1587) (x := (0, 0, 0, 0)) (w := none) rfl (fun _ => rfl) rfl ?_
  refine r_arg hG C hX hbl hB h0 hL 1 (by omega) (nx := 1592) ⟨rfl, rfl, rfl, rfl, rfl⟩ rfl ?_
  refine r_call hG C hR (j := 179) (nx := 1595) (x := (262, 2, 109, 0)) (w := none) (as := [(109, 0), (0, la_x xs (i + 1))]) (rest := []) (z := z) rfl (fun _ => rfl) e1 ?_
  refine r_aload hG C (j := 2) (t := 110) (z := 82) (nx := 1596) (x := (0, 0, 0, 0)) (w := none) rfl (fun _ => rfl) rfl ?_
  refine r_arg hG C hX hbl hB h0 hL 1 (by omega) (nx := 1601) ⟨rfl, rfl, rfl, rfl, rfl⟩ rfl ?_
  refine r_call hG C hR (j := 182) (nx := 1604) (x := (264, 2, 110, 0)) (w := none) (as := [(110, 82), (0, la_x xs (i + 1))]) (rest := [(0, z)]) (z := z) rfl (fun _ => rfl) e2 ?_
  exact r_eq hG C (q := 77) (nx := 1607) (x := (1681, 0, 0, 0)) (w := none) rfl rfl (gn _ _ hI2)
theorem la_c39 {ls : Array Slot} {p : Program} {l : Launch} {e : Env} {R : Room} {s : State} {m : MethodId} {args : Array Value} {below : List Frame} {meth : Method} {c : Code} {Q : State → Prop} {D : va_G} {B0 : Nat} {ka : Nat → Nat} {vF : Value} {n0 c0 s0 : Nat} {ad0 : Nat → Nat} {nf : Nat} {G : am_S → Prop} {b Ls i : Nat} {xs : Nat → Int32} (hG : G = la_Go ls p l e R s m args below meth c Q D B0 ka vF true 277 n0 c0 s0 ad0 nf) (C : am_Cx p s m args c 277 B0 ka vF) (hR : am_Rm R 150 c0 s0 n0 nf) (hX : va_X b Ls xs s s.heap) (hbl : b < s.heap.size) (hB : B0 = s.heap.size) (h0 : ls[0]? = some (.val (.ref b))) (hL : Ls ≤ 3072) (hi : i + 6 ≤ Ls) {σ : am_M} {n t : Nat} (hI : mx_Inv t n σ) (ht : t < 1000) (gn : ∀ σ' n', mx_Inv (t + 1) n' σ' → G (1681, la_L i, [], σ', n')) : G (1609, la_L i, [], σ, n) := by
  obtain ⟨z, σ1, σ2, n2, e1, e2, hI2⟩ := seed_c hI 147 (la_x xs (i + 1))
  refine r_aload hG C (j := 1) (t := 109) (z := 0) (nx := 1610) (x := (0, 0, 0, 0)) (w := none) rfl (fun _ => rfl) rfl ?_
  refine r_arg hG C hX hbl hB h0 hL 1 (by omega) (nx := 1615) ⟨rfl, rfl, rfl, rfl, rfl⟩ rfl ?_
  refine r_call hG C hR (j := 183) (nx := 1618) (x := (265, 2, 109, 0)) (w := none) (as := [(109, 0), (0, la_x xs (i + 1))]) (rest := []) (z := z) rfl (fun _ => rfl) e1 ?_
  refine r_aload hG C (j := 2) (t := 110) (z := 82) (nx := 1619) (x := (0, 0, 0, 0)) (w := none) rfl (fun _ => rfl) rfl ?_
  refine r_arg hG C hX hbl hB h0 hL 1 (by omega) (nx := 1624) ⟨rfl, rfl, rfl, rfl, rfl⟩ rfl ?_
  refine r_call hG C hR (j := 186) (nx := 1627) (x := (266, 2, 110, 0)) (w := none) (as := [(110, 82), (0, la_x xs (i + 1))]) (rest := [(0, z)]) (z := z) rfl (fun _ => rfl) e2 ?_
  exact r_eq hG C (q := 54) (nx := 1630) (x := (1681, 0, 0, 0)) (w := none) rfl rfl (gn _ _ hI2)
theorem la_c40 {ls : Array Slot} {p : Program} {l : Launch} {e : Env} {R : Room} {s : State} {m : MethodId} {args : Array Value} {below : List Frame} {meth : Method} {c : Code} {Q : State → Prop} {D : va_G} {B0 : Nat} {ka : Nat → Nat} {vF : Value} {n0 c0 s0 : Nat} {ad0 : Nat → Nat} {nf : Nat} {G : am_S → Prop} {b Ls i : Nat} {xs : Nat → Int32} (hG : G = la_Go ls p l e R s m args below meth c Q D B0 ka vF true 277 n0 c0 s0 ad0 nf) (C : am_Cx p s m args c 277 B0 ka vF) (hR : am_Rm R 150 c0 s0 n0 nf) (hX : va_X b Ls xs s s.heap) (hbl : b < s.heap.size) (hB : B0 = s.heap.size) (h0 : ls[0]? = some (.val (.ref b))) (hL : Ls ≤ 3072) (hi : i + 6 ≤ Ls) {σ : am_M} {n t : Nat} (hI : mx_Inv t n σ) (ht : t < 1000) (gn : ∀ σ' n', mx_Inv (t + 1) n' σ' → G (1681, la_L i, [], σ', n')) : G (1632, la_L i, [], σ, n) := by
  obtain ⟨z, σ1, σ2, n2, e1, e2, hI2⟩ := image_c hI 147
  refine r_aload hG C (j := 1) (t := 109) (z := 0) (nx := 1633) (x := (0, 0, 0, 0)) (w := none) rfl (fun _ => rfl) rfl ?_
  refine r_call hG C hR (j := 187) (nx := 1636) (x := (268, 1, 109, 0)) (w := none) (as := [(109, 0)]) (rest := []) (z := z) rfl (fun _ => rfl) e1 ?_
  refine r_aload hG C (j := 2) (t := 110) (z := 82) (nx := 1637) (x := (0, 0, 0, 0)) (w := none) rfl (fun _ => rfl) rfl ?_
  refine r_call hG C hR (j := 190) (nx := 1640) (x := (269, 1, 110, 0)) (w := none) (as := [(110, 82)]) (rest := [(0, z)]) (z := z) rfl (fun _ => rfl) e2 ?_
  exact r_eq hG C (q := 41) (nx := 1643) (x := (1681, 0, 0, 0)) (w := none) rfl rfl (gn _ _ hI2)
theorem la_c41 {ls : Array Slot} {p : Program} {l : Launch} {e : Env} {R : Room} {s : State} {m : MethodId} {args : Array Value} {below : List Frame} {meth : Method} {c : Code} {Q : State → Prop} {D : va_G} {B0 : Nat} {ka : Nat → Nat} {vF : Value} {n0 c0 s0 : Nat} {ad0 : Nat → Nat} {nf : Nat} {G : am_S → Prop} {b Ls i : Nat} {xs : Nat → Int32} (hG : G = la_Go ls p l e R s m args below meth c Q D B0 ka vF true 277 n0 c0 s0 ad0 nf) (C : am_Cx p s m args c 277 B0 ka vF) (hR : am_Rm R 150 c0 s0 n0 nf) (hX : va_X b Ls xs s s.heap) (hbl : b < s.heap.size) (hB : B0 = s.heap.size) (h0 : ls[0]? = some (.val (.ref b))) (hL : Ls ≤ 3072) (hi : i + 6 ≤ Ls) {σ : am_M} {n t : Nat} (hI : mx_Inv t n σ) (ht : t < 1000) (gn : ∀ σ' n', mx_Inv (t + 1) n' σ' → G (1681, la_L i, [], σ', n')) : G (1645, la_L i, [], σ, n) := by
  obtain ⟨z, σ1, σ2, n2, e1, e2, hI2⟩ := restore_c hI ht 147
  refine r_aload hG C (j := 1) (t := 109) (z := 0) (nx := 1646) (x := (0, 0, 0, 0)) (w := none) rfl (fun _ => rfl) rfl ?_
  refine r_call hG C hR (j := 191) (nx := 1649) (x := (270, 1, 109, 0)) (w := none) (as := [(109, 0)]) (rest := []) (z := z) rfl (fun _ => rfl) e1 ?_
  refine r_aload hG C (j := 2) (t := 110) (z := 82) (nx := 1650) (x := (0, 0, 0, 0)) (w := none) rfl (fun _ => rfl) rfl ?_
  refine r_call hG C hR (j := 194) (nx := 1653) (x := (271, 1, 110, 0)) (w := none) (as := [(110, 82)]) (rest := [(0, z)]) (z := z) rfl (fun _ => rfl) e2 ?_
  exact r_eq hG C (q := 28) (nx := 1656) (x := (1681, 0, 0, 0)) (w := none) rfl rfl (gn _ _ hI2)
theorem la_c42 {ls : Array Slot} {p : Program} {l : Launch} {e : Env} {R : Room} {s : State} {m : MethodId} {args : Array Value} {below : List Frame} {meth : Method} {c : Code} {Q : State → Prop} {D : va_G} {B0 : Nat} {ka : Nat → Nat} {vF : Value} {n0 c0 s0 : Nat} {ad0 : Nat → Nat} {nf : Nat} {G : am_S → Prop} {b Ls i : Nat} {xs : Nat → Int32} (hG : G = la_Go ls p l e R s m args below meth c Q D B0 ka vF true 277 n0 c0 s0 ad0 nf) (C : am_Cx p s m args c 277 B0 ka vF) (hR : am_Rm R 150 c0 s0 n0 nf) (hX : va_X b Ls xs s s.heap) (hbl : b < s.heap.size) (hB : B0 = s.heap.size) (h0 : ls[0]? = some (.val (.ref b))) (hL : Ls ≤ 3072) (hi : i + 6 ≤ Ls) {σ : am_M} {n t : Nat} (hI : mx_Inv t n σ) (ht : t < 1000) (gn : ∀ σ' n', mx_Inv (t + 1) n' σ' → G (1681, la_L i, [], σ', n')) : G (1658, la_L i, [], σ, n) := by
  obtain ⟨z, σ1, σ2, n2, e1, e2, hI2⟩ := status_c hI 147 (la_x xs (i + 1))
  refine r_aload hG C (j := 1) (t := 109) (z := 0) (nx := 1659) (x := (0, 0, 0, 0)) (w := none) rfl (fun _ => rfl) rfl ?_
  refine r_arg hG C hX hbl hB h0 hL 1 (by omega) (nx := 1664) ⟨rfl, rfl, rfl, rfl, rfl⟩ rfl ?_
  refine r_call hG C hR (j := 195) (nx := 1667) (x := (275, 2, 109, 0)) (w := none) (as := [(109, 0), (0, la_x xs (i + 1))]) (rest := []) (z := z) rfl (fun _ => rfl) e1 ?_
  refine r_aload hG C (j := 2) (t := 110) (z := 82) (nx := 1668) (x := (0, 0, 0, 0)) (w := none) rfl (fun _ => rfl) rfl ?_
  refine r_arg hG C hX hbl hB h0 hL 1 (by omega) (nx := 1673) ⟨rfl, rfl, rfl, rfl, rfl⟩ rfl ?_
  refine r_call hG C hR (j := 198) (nx := 1676) (x := (276, 2, 110, 0)) (w := none) (as := [(110, 82), (0, la_x xs (i + 1))]) (rest := [(0, z)]) (z := z) rfl (fun _ => rfl) e2 ?_
  exact r_eq hG C (q := 5) (nx := 1679) (x := (1681, 0, 0, 0)) (w := none) rfl rfl (gn _ _ hI2)
