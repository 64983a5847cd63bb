/-! THE LAW'S BODY: its cases -/
theorem la_c22 {ls : Array Slot} {p : Program} {l : Launch} {e : Env} {R : Room} {s : State} {m : MethodId} {args : Array Value} {below : List Frame} {meth : Method} {c : Code} {Q : State → Prop} {D : va_G} {B0 : Nat} {ka : Nat → Nat} {vF : Value} {n0 c0 s0 : Nat} {ad0 : Nat → Nat} {nf : Nat} {G : am_S → Prop} {b Ls i : Nat} {xs : Nat → Int32} (hG : G = la_Go ls p l e R s m args below meth c Q D B0 ka vF true 277 n0 c0 s0 ad0 nf) (C : am_Cx p s m args c 277 B0 ka vF) (hR : am_Rm R 150 c0 s0 n0 nf) (hX : va_X b Ls xs s s.heap) (hbl : b < s.heap.size) (hB : B0 = s.heap.size) (h0 : ls[0]? = some (.val (.ref b))) (hL : Ls ≤ 3072) (hi : i + 6 ≤ Ls) {σ : am_M} {n t : Nat} (hI : mx_Inv t n σ) (ht : t < 1000) (gn : ∀ σ' n', mx_Inv (t + 1) n' σ' → G (1681, la_L i, [], σ', n')) : G (997, la_L i, [], σ, n) := by
  obtain ⟨z, σ1, σ2, n2, e1, e2, hI2⟩ := next_c hI 143 (la_x xs (i + 1))
  refine r_aload hG C (j := 1) (t := 109) (z := 0) (nx := 998) (x := (0, 0, 0, 0)) (w := none) rfl (fun _ => rfl) rfl ?_
  refine r_arg hG C hX hbl hB h0 hL 1 (by omega) (nx := 1003) ⟨rfl, rfl, rfl, rfl, rfl⟩ rfl ?_
  refine r_call hG C hR (j := 111) (nx := 1006) (x := (155, 2, 109, 0)) (w := none) (as := [(109, 0), (0, la_x xs (i + 1))]) (rest := []) (z := z) rfl (fun _ => rfl) e1 ?_
  refine r_aload hG C (j := 2) (t := 110) (z := 82) (nx := 1007) (x := (0, 0, 0, 0)) (w := none) rfl (fun _ => rfl) rfl ?_
  refine r_arg hG C hX hbl hB h0 hL 1 (by omega) (nx := 1012) ⟨rfl, rfl, rfl, rfl, rfl⟩ rfl ?_
  refine r_call hG C hR (j := 114) (nx := 1015) (x := (156, 2, 110, 0)) (w := none) (as := [(110, 82), (0, la_x xs (i + 1))]) (rest := [(0, z)]) (z := z) rfl (fun _ => rfl) e2 ?_
  exact r_eq hG C (q := 666) (nx := 1018) (x := (1681, 0, 0, 0)) (w := none) rfl rfl (gn _ _ hI2)
theorem la_c23 {ls : Array Slot} {p : Program} {l : Launch} {e : Env} {R : Room} {s : State} {m : MethodId} {args : Array Value} {below : List Frame} {meth : Method} {c : Code} {Q : State → Prop} {D : va_G} {B0 : Nat} {ka : Nat → Nat} {vF : Value} {n0 c0 s0 : Nat} {ad0 : Nat → Nat} {nf : Nat} {G : am_S → Prop} {b Ls i : Nat} {xs : Nat → Int32} (hG : G = la_Go ls p l e R s m args below meth c Q D B0 ka vF true 277 n0 c0 s0 ad0 nf) (C : am_Cx p s m args c 277 B0 ka vF) (hR : am_Rm R 150 c0 s0 n0 nf) (hX : va_X b Ls xs s s.heap) (hbl : b < s.heap.size) (hB : B0 = s.heap.size) (h0 : ls[0]? = some (.val (.ref b))) (hL : Ls ≤ 3072) (hi : i + 6 ≤ Ls) {σ : am_M} {n t : Nat} (hI : mx_Inv t n σ) (ht : t < 1000) (gn : ∀ σ' n', mx_Inv (t + 1) n' σ' → G (1681, la_L i, [], σ', n')) : G (1020, la_L i, [], σ, n) := by
  obtain ⟨z, σ1, σ2, n2, e1, e2, hI2⟩ := fired_c hI 147 (la_x xs (i + 1))
  refine r_aload hG C (j := 1) (t := 109) (z := 0) (nx := 1021) (x := (0, 0, 0, 0)) (w := none) rfl (fun _ => rfl) rfl ?_
  refine r_arg hG C hX hbl hB h0 hL 1 (by omega) (nx := 1026) ⟨rfl, rfl, rfl, rfl, rfl⟩ rfl ?_
  refine r_call hG C hR (j := 115) (nx := 1029) (x := (157, 2, 109, 0)) (w := none) (as := [(109, 0), (0, la_x xs (i + 1))]) (rest := []) (z := z) rfl (fun _ => rfl) e1 ?_
  refine r_aload hG C (j := 2) (t := 110) (z := 82) (nx := 1030) (x := (0, 0, 0, 0)) (w := none) rfl (fun _ => rfl) rfl ?_
  refine r_arg hG C hX hbl hB h0 hL 1 (by omega) (nx := 1035) ⟨rfl, rfl, rfl, rfl, rfl⟩ rfl ?_
  refine r_call hG C hR (j := 118) (nx := 1038) (x := (158, 2, 110, 0)) (w := none) (as := [(110, 82), (0, la_x xs (i + 1))]) (rest := [(0, z)]) (z := z) rfl (fun _ => rfl) e2 ?_
  exact r_eq hG C (q := 643) (nx := 1041) (x := (1681, 0, 0, 0)) (w := none) rfl rfl (gn _ _ hI2)
theorem la_c24 {ls : Array Slot} {p : Program} {l : Launch} {e : Env} {R : Room} {s : State} {m : MethodId} {args : Array Value} {below : List Frame} {meth : Method} {c : Code} {Q : State → Prop} {D : va_G} {B0 : Nat} {ka : Nat → Nat} {vF : Value} {n0 c0 s0 : Nat} {ad0 : Nat → Nat} {nf : Nat} {G : am_S → Prop} {b Ls i : Nat} {xs : Nat → Int32} (hG : G = la_Go ls p l e R s m args below meth c Q D B0 ka vF true 277 n0 c0 s0 ad0 nf) (C : am_Cx p s m args c 277 B0 ka vF) (hR : am_Rm R 150 c0 s0 n0 nf) (hX : va_X b Ls xs s s.heap) (hbl : b < s.heap.size) (hB : B0 = s.heap.size) (h0 : ls[0]? = some (.val (.ref b))) (hL : Ls ≤ 3072) (hi : i + 6 ≤ Ls) {σ : am_M} {n t : Nat} (hI : mx_Inv t n σ) (ht : t < 1000) (gn : ∀ σ' n', mx_Inv (t + 1) n' σ' → G (1681, la_L i, [], σ', n')) : G (1043, la_L i, [], σ, n) := by
  obtain ⟨z, σ1, σ2, n2, e1, e2, hI2⟩ := allow_c hI 147 (la_x xs (i + 1)) (la_b (la_x xs (i + 2)))
  refine r_aload hG C (j := 1) (t := 109) (z := 0) (nx := 1044) (x := (0, 0, 0, 0)) (w := none) rfl (fun _ => rfl) rfl ?_
  refine r_arg hG C hX hbl hB h0 hL 1 (by omega) (nx := 1049) ⟨rfl, rfl, rfl, rfl, rfl⟩ rfl ?_
  refine r_arg hG C hX hbl hB h0 hL 2 (by omega) (nx := 1054) ⟨rfl, rfl, rfl, rfl, rfl⟩ rfl ?_
  refine r_bool hG C (nx := 1062) ⟨rfl, rfl, rfl, rfl⟩ rfl ?_
  refine r_call hG C hR (j := 119) (nx := 1065) (x := (160, 3, 109, 0)) (w := some [true, true, true, true]) (as := [(109, 0), (0, la_x xs (i + 1)), (0, la_b (la_x xs (i + 2)))]) (rest := []) (z := z) rfl (fun _ => rfl) e1 ?_
  refine r_aload hG C (j := 2) (t := 110) (z := 82) (nx := 1066) (x := (0, 0, 0, 0)) (w := none) rfl (fun _ => rfl) rfl ?_
  refine r_arg hG C hX hbl hB h0 hL 1 (by omega) (nx := 1071) ⟨rfl, rfl, rfl, rfl, rfl⟩ rfl ?_
  refine r_arg hG C hX hbl hB h0 hL 2 (by omega) (nx := 1076) ⟨rfl, rfl, rfl, rfl, rfl⟩ rfl ?_
  refine r_bool hG C (nx := 1084) ⟨rfl, rfl, rfl, rfl⟩ rfl ?_
  refine r_call hG C hR (j := 123) (nx := 1087) (x := (162, 3, 110, 0)) (w := none) (as := [(110, 82), (0, la_x xs (i + 1)), (0, la_b (la_x xs (i + 2)))]) (rest := [(0, z)]) (z := z) rfl (fun _ => rfl) e2 ?_
  exact r_eq hG C (q := 594) (nx := 1090) (x := (1681, 0, 0, 0)) (w := none) rfl rfl (gn _ _ hI2)
theorem la_c25 {ls : Array Slot} {p : Program} {l : Launch} {e : Env} {R : Room} {s : State} {m : MethodId} {args : Array Value} {below : List Frame} {meth : Method} {c : Code} {Q : State → Prop} {D : va_G} {B0 : Nat} {ka : Nat → Nat} {vF : Value} {n0 c0 s0 : Nat} {ad0 : Nat → Nat} {nf : Nat} {G : am_S → Prop} {b Ls i : Nat} {xs : Nat → Int32} (hG : G = la_Go ls p l e R s m args below meth c Q D B0 ka vF true 277 n0 c0 s0 ad0 nf) (C : am_Cx p s m args c 277 B0 ka vF) (hR : am_Rm R 150 c0 s0 n0 nf) (hX : va_X b Ls xs s s.heap) (hbl : b < s.heap.size) (hB : B0 = s.heap.size) (h0 : ls[0]? = some (.val (.ref b))) (hL : Ls ≤ 3072) (hi : i + 6 ≤ Ls) {σ : am_M} {n t : Nat} (hI : mx_Inv t n σ) (ht : t < 1000) (gn : ∀ σ' n', mx_Inv (t + 1) n' σ' → G (1681, la_L i, [], σ', n')) : G (1092, la_L i, [], σ, n) := by
  obtain ⟨z, σ1, σ2, n2, e1, e2, hI2⟩ := cost_c hI 130 (la_x xs (i + 1)) (la_x xs (i + 2)) (la_x xs (i + 3))
  refine r_aload hG C (j := 1) (t := 109) (z := 0) (nx := 1093) (x := (0, 0, 0, 0)) (w := none) rfl (fun _ => rfl) rfl ?_
  refine r_arg hG C hX hbl hB h0 hL 1 (by omega) (nx := 1098) ⟨rfl, rfl, rfl, rfl, rfl⟩ rfl ?_
  refine r_arg hG C hX hbl hB h0 hL 2 (by omega) (nx := 1103) ⟨rfl, rfl, rfl, rfl, rfl⟩ rfl ?_
  refine r_arg hG C hX hbl hB h0 hL 3 (by omega) (nx := 1108) ⟨rfl, rfl, rfl, rfl, rfl⟩ rfl ?_
  refine r_call hG C hR (j := 124) (nx := 1111) (x := (191, 4, 109, 1)) (w := none) (as := [(109, 0), (0, la_x xs (i + 1)), (0, la_x xs (i + 2)), (0, la_x xs (i + 3))]) (rest := []) (z := z) rfl (fun _ => rfl) e1 ?_
  refine r_aload hG C (j := 2) (t := 110) (z := 82) (nx := 1112) (x := (0, 0, 0, 0)) (w := none) rfl (fun _ => rfl) rfl ?_
  refine r_arg hG C hX hbl hB h0 hL 1 (by omega) (nx := 1117) ⟨rfl, rfl, rfl, rfl, rfl⟩ rfl ?_
  refine r_arg hG C hX hbl hB h0 hL 2 (by omega) (nx := 1122) ⟨rfl, rfl, rfl, rfl, rfl⟩ rfl ?_
  refine r_arg hG C hX hbl hB h0 hL 3 (by omega) (nx := 1127) ⟨rfl, rfl, rfl, rfl, rfl⟩ rfl ?_
  refine r_call hG C hR (j := 128) (nx := 1130) (x := (208, 4, 110, 1)) (w := none) (as := [(110, 82), (0, la_x xs (i + 1)), (0, la_x xs (i + 2)), (0, la_x xs (i + 3))]) (rest := [(1, z)]) (z := z) rfl (fun _ => rfl) e2 ?_
  refine r_lcmp hG C (nx := 1131) (x := (0, 0, 0, 0)) (w := none) rfl ?_
  exact r_z hG C (q := 550) (nx := 1134) (x := (1681, 0, 0, 0)) (w := none) rfl (fun _ => gn _ _ hI2) (fun q => absurd (la_cmp z) q)
theorem la_c26 {ls : Array Slot} {p : Program} {l : Launch} {e : Env} {R : Room} {s : State} {m : MethodId} {args : Array Value} {below : List Frame} {meth : Method} {c : Code} {Q : State → Prop} {D : va_G} {B0 : Nat} {ka : Nat → Nat} {vF : Value} {n0 c0 s0 : Nat} {ad0 : Nat → Nat} {nf : Nat} {G : am_S → Prop} {b Ls i : Nat} {xs : Nat → Int32} (hG : G = la_Go ls p l e R s m args below meth c Q D B0 ka vF true 277 n0 c0 s0 ad0 nf) (C : am_Cx p s m args c 277 B0 ka vF) (hR : am_Rm R 150 c0 s0 n0 nf) (hX : va_X b Ls xs s s.heap) (hbl : b < s.heap.size) (hB : B0 = s.heap.size) (h0 : ls[0]? = some (.val (.ref b))) (hL : Ls ≤ 3072) (hi : i + 6 ≤ Ls) {σ : am_M} {n t : Nat} (hI : mx_Inv t n σ) (ht : t < 1000) (gn : ∀ σ' n', mx_Inv (t + 1) n' σ' → G (1681, la_L i, [], σ', n')) : G (1136, la_L i, [], σ, n) := by
  obtain ⟨z, σ1, σ2, n2, e1, e2, hI2⟩ := costBy_c hI 130 (la_x xs (i + 1)) (la_x xs (i + 2)) (la_x xs (i + 3))
  refine r_aload hG C (j := 1) (t := 109) (z := 0) (nx := 1137) (x := (0, 0, 0, 0)) (w := none) rfl (fun _ => rfl) rfl ?_
  refine r_arg hG C hX hbl hB h0 hL 1 (by omega) (nx := 1142) ⟨rfl, rfl, rfl, rfl, rfl⟩ rfl ?_
  refine r_arg hG C hX hbl hB h0 hL 2 (by omega) (nx := 1147) ⟨rfl, rfl, rfl, rfl, rfl⟩ rfl ?_
  refine r_arg hG C hX hbl hB h0 hL 3 (by omega) (nx := 1152) ⟨rfl, rfl, rfl, rfl, rfl⟩ rfl ?_
  refine r_call hG C hR (j := 129) (nx := 1155) (x := (210, 4, 109, 1)) (w := none) (as := [(109, 0), (0, la_x xs (i + 1)), (0, la_x xs (i + 2)), (0, la_x xs (i + 3))]) (rest := []) (z := z) rfl (fun _ => rfl) e1 ?_
  refine r_aload hG C (j := 2) (t := 110) (z := 82) (nx := 1156) (x := (0, 0, 0, 0)) (w := none) rfl (fun _ => rfl) rfl ?_
  refine r_arg hG C hX hbl hB h0 hL 1 (by omega) (nx := 1161) ⟨rfl, rfl, rfl, rfl, rfl⟩ rfl ?_
  refine r_arg hG C hX hbl hB h0 hL 2 (by omega) (nx := 1166) ⟨rfl, rfl, rfl, rfl, rfl⟩ rfl ?_
  refine r_arg hG C hX hbl hB h0 hL 3 (by omega) (nx := 1171) ⟨rfl, rfl, rfl, rfl, rfl⟩ rfl ?_
  refine r_call hG C hR (j := 132) (nx := 1174) (x := (211, 4, 110, 1)) (w := none) (as := [(110, 82), (0, la_x xs (i + 1)), (0, la_x xs (i + 2)), (0, la_x xs (i + 3))]) (rest := [(1, z)]) (z := z) rfl (fun _ => rfl) e2 ?_
  refine r_lcmp hG C (nx := 1175) (x := (0, 0, 0, 0)) (w := none) rfl ?_
  exact r_z hG C (q := 506) (nx := 1178) (x := (1681, 0, 0, 0)) (w := none) rfl (fun _ => gn _ _ hI2) (fun q => absurd (la_cmp z) q)
theorem la_c27 {ls : Array Slot} {p : Program} {l : Launch} {e : Env} {R : Room} {s : State} {m : MethodId} {args : Array Value} {below : List Frame} {meth : Method} {c : Code} {Q : State → Prop} {D : va_G} {B0 : Nat} {ka : Nat → Nat} {vF : Value} {n0 c0 s0 : Nat} {ad0 : Nat → Nat} {nf : Nat} {G : am_S → Prop} {b Ls i : Nat} {xs : Nat → Int32} (hG : G = la_Go ls p l e R s m args below meth c Q D B0 ka vF true 277 n0 c0 s0 ad0 nf) (C : am_Cx p s m args c 277 B0 ka vF) (hR : am_Rm R 150 c0 s0 n0 nf) (hX : va_X b Ls xs s s.heap) (hbl : b < s.heap.size) (hB : B0 = s.heap.size) (h0 : ls[0]? = some (.val (.ref b))) (hL : Ls ≤ 3072) (hi : i + 6 ≤ Ls) {σ : am_M} {n t : Nat} (hI : mx_Inv t n σ) (ht : t < 1000) (gn : ∀ σ' n', mx_Inv (t + 1) n' σ' → G (1681, la_L i, [], σ', n')) : G (1180, la_L i, [], σ, n) := by
  obtain ⟨z, σ1, σ2, n2, e1, e2, hI2⟩ := demands_c hI 130 (la_x xs (i + 1)) (la_x xs (i + 2)) (la_x xs (i + 3))
  refine r_aload hG C (j := 1) (t := 109) (z := 0) (nx := 1181) (x := (0, 0, 0, 0)) (w := none) rfl (fun _ => rfl) rfl ?_
  refine r_arg hG C hX hbl hB h0 hL 1 (by omega) (nx := 1186) ⟨rfl, rfl, rfl, rfl, rfl⟩ rfl ?_
  refine r_arg hG C hX hbl hB h0 hL 2 (by omega) (nx := 1191) ⟨rfl, rfl, rfl, rfl, rfl⟩ rfl ?_
  refine r_arg hG C hX hbl hB h0 hL 3 (by omega) (nx := 1196) ⟨rfl, rfl, rfl, rfl, rfl⟩ rfl ?_
  refine r_call hG C hR (j := 133) (nx := 1199) (x := (216, 4, 109, 0)) (w := none) (as := [(109, 0), (0, la_x xs (i + 1)), (0, la_x xs (i + 2)), (0, la_x xs (i + 3))]) (rest := []) (z := z) rfl (fun _ => rfl) e1 ?_
  refine r_aload hG C (j := 2) (t := 110) (z := 82) (nx := 1200) (x := (0, 0, 0, 0)) (w := none) rfl (fun _ => rfl) rfl ?_
  refine r_arg hG C hX hbl hB h0 hL 1 (by omega) (nx := 1205) ⟨rfl, rfl, rfl, rfl, rfl⟩ rfl ?_
  refine r_arg hG C hX hbl hB h0 hL 2 (by omega) (nx := 1210) ⟨rfl, rfl, rfl, rfl, rfl⟩ rfl ?_
  refine r_arg hG C hX hbl hB h0 hL 3 (by omega) (nx := 1215) ⟨rfl, rfl, rfl, rfl, rfl⟩ rfl ?_
  refine r_call hG C hR (j := 136) (nx := 1218) (x := (218, 4, 110, 0)) (w := none) (as := [(110, 82), (0, la_x xs (i + 1)), (0, la_x xs (i + 2)), (0, la_x xs (i + 3))]) (rest := [(0, z)]) (z := z) rfl (fun _ => rfl) e2 ?_
  exact r_eq hG C (q := 463) (nx := 1221) (x := (1681, 0, 0, 0)) (w := none) rfl rfl (gn _ _ hI2)
theorem la_c28 {ls : Array Slot} {p : Program} {l : Launch} {e : Env} {R : Room} {s : State} {m : MethodId} {args : Array Value} {below : List Frame} {meth : Method} {c : Code} {Q : State → Prop} {D : va_G} {B0 : Nat} {ka : Nat → Nat} {vF : Value} {n0 c0 s0 : Nat} {ad0 : Nat → Nat} {nf : Nat} {G : am_S → Prop} {b Ls i : Nat} {xs : Nat → Int32} (hG : G = la_Go ls p l e R s m args below meth c Q D B0 ka vF true 277 n0 c0 s0 ad0 nf) (C : am_Cx p s m args c 277 B0 ka vF) (hR : am_Rm R 150 c0 s0 n0 nf) (hX : va_X b Ls xs s s.heap) (hbl : b < s.heap.size) (hB : B0 = s.heap.size) (h0 : ls[0]? = some (.val (.ref b))) (hL : Ls ≤ 3072) (hi : i + 6 ≤ Ls) {σ : am_M} {n t : Nat} (hI : mx_Inv t n σ) (ht : t < 1000) (gn : ∀ σ' n', mx_Inv (t + 1) n' σ' → G (1681, la_L i, [], σ', n')) : G (1223, la_L i, [], σ, n) := by
  obtain ⟨z, σ1, σ2, n2, e1, e2, hI2⟩ := within_c hI 130 (la_x xs (i + 1)) (la_x xs (i + 2)) (la_x xs (i + 3))
  refine r_aload hG C (j := 1) (t := 109) (z := 0) (nx := 1224) (x := (0, 0, 0, 0)) (w := none) rfl (fun _ => rfl) rfl ?_
  refine r_arg hG C hX hbl hB h0 hL 1 (by omega) (nx := 1229) ⟨rfl, rfl, rfl, rfl, rfl⟩ rfl ?_
  refine r_arg hG C hX hbl hB h0 hL 2 (by omega) (nx := 1234) ⟨rfl, rfl, rfl, rfl, rfl⟩ rfl ?_
  refine r_arg hG C hX hbl hB h0 hL 3 (by omega) (nx := 1239) ⟨rfl, rfl, rfl, rfl, rfl⟩ rfl ?_
  refine r_call hG C hR (j := 137) (nx := 1242) (x := (220, 4, 109, 0)) (w := none) (as := [(109, 0), (0, la_x xs (i + 1)), (0, la_x xs (i + 2)), (0, la_x xs (i + 3))]) (rest := []) (z := z) rfl (fun _ => rfl) e1 ?_
  refine r_aload hG C (j := 2) (t := 110) (z := 82) (nx := 1243) (x := (0, 0, 0, 0)) (w := none) rfl (fun _ => rfl) rfl ?_
  refine r_arg hG C hX hbl hB h0 hL 1 (by omega) (nx := 1248) ⟨rfl, rfl, rfl, rfl, rfl⟩ rfl ?_
  refine r_arg hG C hX hbl hB h0 hL 2 (by omega) (nx := 1253) ⟨rfl, rfl, rfl, rfl, rfl⟩ rfl ?_
  refine r_arg hG C hX hbl hB h0 hL 3 (by omega) (nx := 1258) ⟨rfl, rfl, rfl, rfl, rfl⟩ rfl ?_
  refine r_call hG C hR (j := 140) (nx := 1261) (x := (221, 4, 110, 0)) (w := none) (as := [(110, 82), (0, la_x xs (i + 1)), (0, la_x xs (i + 2)), (0, la_x xs (i + 3))]) (rest := [(0, z)]) (z := z) rfl (fun _ => rfl) e2 ?_
  exact r_eq hG C (q := 420) (nx := 1264) (x := (1681, 0, 0, 0)) (w := none) rfl rfl (gn _ _ hI2)
theorem la_c29 {ls : Array Slot} {p : Program} {l : Launch} {e : Env} {R : Room} {s : State} {m : MethodId} {args : Array Value} {below : List Frame} {meth : Method} {c : Code} {Q : State → Prop} {D : va_G} {B0 : Nat} {ka : Nat → Nat} {vF : Value} {n0 c0 s0 : Nat} {ad0 : Nat → Nat} {nf : Nat} {G : am_S → Prop} {b Ls i : Nat} {xs : Nat → Int32} (hG : G = la_Go ls p l e R s m args below meth c Q D B0 ka vF true 277 n0 c0 s0 ad0 nf) (C : am_Cx p s m args c 277 B0 ka vF) (hR : am_Rm R 150 c0 s0 n0 nf) (hX : va_X b Ls xs s s.heap) (hbl : b < s.heap.size) (hB : B0 = s.heap.size) (h0 : ls[0]? = some (.val (.ref b))) (hL : Ls ≤ 3072) (hi : i + 6 ≤ Ls) {σ : am_M} {n t : Nat} (hI : mx_Inv t n σ) (ht : t < 1000) (gn : ∀ σ' n', mx_Inv (t + 1) n' σ' → G (1681, la_L i, [], σ', n')) : G (1266, la_L i, [], σ, n) := by
  obtain ⟨z, σ1, σ2, n2, e1, e2, hI2⟩ := where_c hI 130 (la_x xs (i + 1)) (la_x xs (i + 2))
  refine r_aload hG C (j := 1) (t := 109) (z := 0) (nx := 1267) (x := (0, 0, 0, 0)) (w := none) rfl (fun _ => rfl) rfl ?_
  refine r_arg hG C hX hbl hB h0 hL 1 (by omega) (nx := 1272) ⟨rfl, rfl, rfl, rfl, rfl⟩ rfl ?_
  refine r_arg hG C hX hbl hB h0 hL 2 (by omega) (nx := 1277) ⟨rfl, rfl, rfl, rfl, rfl⟩ rfl ?_
  refine r_call hG C hR (j := 141) (nx := 1280) (x := (222, 3, 109, 0)) (w := none) (as := [(109, 0), (0, la_x xs (i + 1)), (0, la_x xs (i + 2))]) (rest := []) (z := z) rfl (fun _ => rfl) e1 ?_
  refine r_aload hG C (j := 2) (t := 110) (z := 82) (nx := 1281) (x := (0, 0, 0, 0)) (w := none) rfl (fun _ => rfl) rfl ?_
  refine r_arg hG C hX hbl hB h0 hL 1 (by omega) (nx := 1286) ⟨rfl, rfl, rfl, rfl, rfl⟩ rfl ?_
  refine r_arg hG C hX hbl hB h0 hL 2 (by omega) (nx := 1291) ⟨rfl, rfl, rfl, rfl, rfl⟩ rfl ?_
  refine r_call hG C hR (j := 144) (nx := 1294) (x := (223, 3, 110, 0)) (w := none) (as := [(110, 82), (0, la_x xs (i + 1)), (0, la_x xs (i + 2))]) (rest := [(0, z)]) (z := z) rfl (fun _ => rfl) e2 ?_
  exact r_eq hG C (q := 387) (nx := 1297) (x := (1681, 0, 0, 0)) (w := none) rfl rfl (gn _ _ hI2)
theorem la_c30 {ls : Array Slot} {p : Program} {l : Launch} {e : Env} {R : Room} {s : State} {m : MethodId} {args : Array Value} {below : List Frame} {meth : Method} {c : Code} {Q : State → Prop} {D : va_G} {B0 : Nat} {ka : Nat → Nat} {vF : Value} {n0 c0 s0 : Nat} {ad0 : Nat → Nat} {nf : Nat} {G : am_S → Prop} {b Ls i : Nat} {xs : Nat → Int32} (hG : G = la_Go ls p l e R s m args below meth c Q D B0 ka vF true 277 n0 c0 s0 ad0 nf) (C : am_Cx p s m args c 277 B0 ka vF) (hR : am_Rm R 150 c0 s0 n0 nf) (hX : va_X b Ls xs s s.heap) (hbl : b < s.heap.size) (hB : B0 = s.heap.size) (h0 : ls[0]? = some (.val (.ref b))) (hL : Ls ≤ 3072) (hi : i + 6 ≤ Ls) {σ : am_M} {n t : Nat} (hI : mx_Inv t n σ) (ht : t < 1000) (gn : ∀ σ' n', mx_Inv (t + 1) n' σ' → G (1681, la_L i, [], σ', n')) : G (1299, la_L i, [], σ, n) := by
  obtain ⟨z, σ1, σ2, n2, e1, e2, hI2⟩ := worth_c hI 130 (la_x xs (i + 1)) (la_x xs (i + 2)) (la_x xs (i + 3)) (la_x xs (i + 4))
  refine r_aload hG C (j := 1) (t := 109) (z := 0) (nx := 1300) (x := (0, 0, 0, 0)) (w := none) rfl (fun _ => rfl) rfl ?_
  refine r_arg hG C hX hbl hB h0 hL 1 (by omega) (nx := 1305) ⟨rfl, rfl, rfl, rfl, rfl⟩ rfl ?_
  refine r_arg hG C hX hbl hB h0 hL 2 (by omega) (nx := 1310) ⟨rfl, rfl, rfl, rfl, rfl⟩ rfl ?_
  refine r_arg hG C hX hbl hB h0 hL 3 (by omega) (nx := 1315) ⟨rfl, rfl, rfl, rfl, rfl⟩ rfl ?_
  refine r_arg hG C hX hbl hB h0 hL 4 (by omega) (nx := 1320) ⟨rfl, rfl, rfl, rfl, rfl⟩ rfl ?_
  refine r_call hG C hR (j := 145) (nx := 1323) (x := (224, 5, 109, 1)) (w := none) (as := [(109, 0), (0, la_x xs (i + 1)), (0, la_x xs (i + 2)), (0, la_x xs (i + 3)), (0, la_x xs (i + 4))]) (rest := []) (z := z) rfl (fun _ => rfl) e1 ?_
  refine r_aload hG C (j := 2) (t := 110) (z := 82) (nx := 1324) (x := (0, 0, 0, 0)) (w := none) rfl (fun _ => rfl) rfl ?_
  refine r_arg hG C hX hbl hB h0 hL 1 (by omega) (nx := 1329) ⟨rfl, rfl, rfl, rfl, rfl⟩ rfl ?_
  refine r_arg hG C hX hbl hB h0 hL 2 (by omega) (nx := 1334) ⟨rfl, rfl, rfl, rfl, rfl⟩ rfl ?_
  refine r_arg hG C hX hbl hB h0 hL 3 (by omega) (nx := 1339) ⟨rfl, rfl, rfl, rfl, rfl⟩ rfl ?_
  refine r_arg hG C hX hbl hB h0 hL 4 (by omega) (nx := 1344) ⟨rfl, rfl, rfl, rfl, rfl⟩ rfl ?_
  refine r_call hG C hR (j := 149) (nx := 1347) (x := (225, 5, 110, 1)) (w := none) (as := [(110, 82), (0, la_x xs (i + 1)), (0, la_x xs (i + 2)), (0, la_x xs (i + 3)), (0, la_x xs (i + 4))]) (rest := [(1, z)]) (z := z) rfl (fun _ => rfl) e2 ?_
  refine r_lcmp hG C (nx := 1348) (x := (0, 0, 0, 0)) (w := none) rfl ?_
  exact r_z hG C (q := 333) (nx := 1351) (x := (1681, 0, 0, 0)) (w := none) rfl (fun _ => gn _ _ hI2) (fun q => absurd (la_cmp z) q)
theorem la_c31 {ls : Array Slot} {p : Program} {l : Launch} {e : Env} {R : Room} {s : State} {m : MethodId} {args : Array Value} {below : List Frame} {meth : Method} {c : Code} {Q : State → Prop} {D : va_G} {B0 : Nat} {ka : Nat → Nat} {vF : Value} {n0 c0 s0 : Nat} {ad0 : Nat → Nat} {nf : Nat} {G : am_S → Prop} {b Ls i : Nat} {xs : Nat → Int32} (hG : G = la_Go ls p l e R s m args below meth c Q D B0 ka vF true 277 n0 c0 s0 ad0 nf) (C : am_Cx p s m args c 277 B0 ka vF) (hR : am_Rm R 150 c0 s0 n0 nf) (hX : va_X b Ls xs s s.heap) (hbl : b < s.heap.size) (hB : B0 = s.heap.size) (h0 : ls[0]? = some (.val (.ref b))) (hL : Ls ≤ 3072) (hi : i + 6 ≤ Ls) {σ : am_M} {n t : Nat} (hI : mx_Inv t n σ) (ht : t < 1000) (gn : ∀ σ' n', mx_Inv (t + 1) n' σ' → G (1681, la_L i, [], σ', n')) : G (1353, la_L i, [], σ, n) := by
  obtain ⟨z, σ1, σ2, n2, e1, e2, hI2⟩ := plan_c hI 0 (la_x xs (i + 1)) (la_x xs (i + 2)) (la_x xs (i + 3))
  refine r_aload hG C (j := 1) (t := 109) (z := 0) (nx := 1354) (x := (0, 0, 0, 0)) (w := none) rfl (fun _ => rfl) rfl ?_
  refine r_arg hG C hX hbl hB h0 hL 1 (by omega) (nx := 1359) ⟨rfl, rfl, rfl, rfl, rfl⟩ rfl ?_
  refine r_arg hG C hX hbl hB h0 hL 2 (by omega) (nx := 1364) ⟨rfl, rfl, rfl, rfl, rfl⟩ rfl ?_
  refine r_arg hG C hX hbl hB h0 hL 3 (by omega) (nx := 1369) ⟨rfl, rfl, rfl, rfl, rfl⟩ rfl ?_
  refine r_call hG C hR (j := 150) (nx := 1372) (x := (234, 4, 109, 0)) (w := none) (as := [(109, 0), (0, la_x xs (i + 1)), (0, la_x xs (i + 2)), (0, la_x xs (i + 3))]) (rest := []) (z := z) rfl (fun _ => rfl) e1 ?_
  refine r_aload hG C (j := 2) (t := 110) (z := 82) (nx := 1373) (x := (0, 0, 0, 0)) (w := none) rfl (fun _ => rfl) rfl ?_
  refine r_arg hG C hX hbl hB h0 hL 1 (by omega) (nx := 1378) ⟨rfl, rfl, rfl, rfl, rfl⟩ rfl ?_
  refine r_arg hG C hX hbl hB h0 hL 2 (by omega) (nx := 1383) ⟨rfl, rfl, rfl, rfl, rfl⟩ rfl ?_
  refine r_arg hG C hX hbl hB h0 hL 3 (by omega) (nx := 1388) ⟨rfl, rfl, rfl, rfl, rfl⟩ rfl ?_
  refine r_call hG C hR (j := 153) (nx := 1391) (x := (236, 4, 110, 0)) (w := none) (as := [(110, 82), (0, la_x xs (i + 1)), (0, la_x xs (i + 2)), (0, la_x xs (i + 3))]) (rest := [(0, z)]) (z := z) rfl (fun _ => rfl) e2 ?_
  exact r_eq hG C (q := 290) (nx := 1394) (x := (1681, 0, 0, 0)) (w := none) rfl rfl (gn _ _ hI2)
theorem la_c32 {ls : Array Slot} {p : Program} {l : Launch} {e : Env} {R : Room} {s : State} {m : MethodId} {args : Array Value} {below : List Frame} {meth : Method} {c : Code} {Q : State → Prop} {D : va_G} {B0 : Nat} {ka : Nat → Nat} {vF : Value} {n0 c0 s0 : Nat} {ad0 : Nat → Nat} {nf : Nat} {G : am_S → Prop} {b Ls i : Nat} {xs : Nat → Int32} (hG : G = la_Go ls p l e R s m args below meth c Q D B0 ka vF true 277 n0 c0 s0 ad0 nf) (C : am_Cx p s m args c 277 B0 ka vF) (hR : am_Rm R 150 c0 s0 n0 nf) (hX : va_X b Ls xs s s.heap) (hbl : b < s.heap.size) (hB : B0 = s.heap.size) (h0 : ls[0]? = some (.val (.ref b))) (hL : Ls ≤ 3072) (hi : i + 6 ≤ Ls) {σ : am_M} {n t : Nat} (hI : mx_Inv t n σ) (ht : t < 1000) (gn : ∀ σ' n', mx_Inv (t + 1) n' σ' → G (1681, la_L i, [], σ', n')) : G (1396, la_L i, [], σ, n) := by
  obtain ⟨z, σ1, σ2, n2, e1, e2, hI2⟩ := planAt_c hI 147 (la_x xs (i + 1)) (la_x xs (i + 2))
  refine r_aload hG C (j := 1) (t := 109) (z := 0) (nx := 1397) (x := (0, 0, 0, 0)) (w := none) rfl (fun _ => rfl) rfl ?_
  refine r_arg hG C hX hbl hB h0 hL 1 (by omega) (nx := 1402) ⟨rfl, rfl, rfl, rfl, rfl⟩ rfl ?_
  refine r_arg hG C hX hbl hB h0 hL 2 (by omega) (nx := 1407) ⟨rfl, rfl, rfl, rfl, rfl⟩ rfl ?_
  refine r_call hG C hR (j := 154) (nx := 1410) (x := (238, 3, 109, 0)) (w := none) (as := [(109, 0), (0, la_x xs (i + 1)), (0, la_x xs (i + 2))]) (rest := []) (z := z) rfl (fun _ => rfl) e1 ?_
  refine r_aload hG C (j := 2) (t := 110) (z := 82) (nx := 1411) (x := (0, 0, 0, 0)) (w := none) rfl (fun _ => rfl) rfl ?_
  refine r_arg hG C hX hbl hB h0 hL 1 (by omega) (nx := 1416) ⟨rfl, rfl, rfl, rfl, rfl⟩ rfl ?_
  refine r_arg hG C hX hbl hB h0 hL 2 (by omega) (nx := 1421) ⟨rfl, rfl, rfl, rfl, rfl⟩ rfl ?_
  refine r_call hG C hR (j := 157) (nx := 1424) (x := (239, 3, 110, 0)) (w := none) (as := [(110, 82), (0, la_x xs (i + 1)), (0, la_x xs (i + 2))]) (rest := [(0, z)]) (z := z) rfl (fun _ => rfl) e2 ?_
  exact r_eq hG C (q := 257) (nx := 1427) (x := (1681, 0, 0, 0)) (w := none) rfl rfl (gn _ _ hI2)
