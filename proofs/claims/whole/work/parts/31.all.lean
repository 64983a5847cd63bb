theorem am_cells_ge {i : Nat} (h : 144 ≤ i) : am_cells i = (0, 0) := by
  simp (disch := omega) only [am_cells, am_blt_n, am_beq_n, cond_false]
theorem am_tag_lt {i : Nat} (h : am_tag i ≠ 0) : i < 144 := by
  rcases Nat.lt_or_ge i 144 with q | q
  · exact q
  · exact absurd (by unfold am_tag; rw [am_cells_ge q]) h
/-- a new cell: the world behind it -/
theorem go_alloc {p : Program} {l : Launch} {e : Env} {R : Room} {s : State} {m : MethodId} {args : Array Value} {below : List Frame} {meth : Method} {c : Code} {Q : State → Prop} {D : va_G} {B0 : Nat} {ka : Nat → Nat} {vF : Value} {md : Bool} {y n0 c0 s0 : Nat} {ad0 : Nat → Nat} {nf : Nat} {G : am_S → Prop} (hG : G = am_Go p l e R s m args below meth c Q D B0 ka vF md y n0 c0 s0 ad0 nf) (C : am_Cx p s m args c y B0 ka vF) {k : am_S → Option am_R} {r : am_R} (hk : ∀ S, k S = some r → G S) {pc nx : Nat} {L st : List am_V} {σ : am_M} {n : Nat} {d : Nat} (hR : am_Rm R d c0 s0 n0 nf) {tg : Nat} (htg : am_tag n = tg) (hti : am_isr tg = true) {us rest : List am_V} (hst : st = us ++ rest) (hF : md = true → ∀ j, am_isfn n j = false)
    (hrow : ∀ (H : Heap) (locs : List Loc) (cells slots : Nat) (ls : Array Slot) (ad cA : Nat → Nat) (tys : List (ClassId × FieldType)), am_Pt s D B0 ka vF md y n0 c0 s0 ad0 ls L st σ n H locs cells slots ad cA tys → cells + 1 ≤ R.cells → slots + am_len n ≤ R.slots →
      (∀ (q cN : Nat) (tys' : List (ClassId × FieldType)) (H1 : Heap), va_K D am_cl tys' s → (∀ i : Nat, ∀ e, tys[i]? = some e → tys'[i]? = some e) → (am_tag n < 100 → ∃ t0 : Nat, tys'[t0]? = some (cN, am_aty (am_tag n))) → va_P D am_cl (am_ws ka vF ad cA σ n ++ [(q, am_en ka vF (am_ad ad n q) (am_ad cA n cN) (am_new σ n) n)]) H1 → va_D (fun q => B0 ≤ q) (am_ws ka vF ad cA σ n ++ [(q, am_en ka vF (am_ad ad n q) (am_ad cA n cN) (am_new σ n) n)]) → va_S (fun q => B0 ≤ q) s.heap H1 locs →
        W p l e R s m args below meth c H1 locs (cells + 1) (slots + am_len n) Q (F0 m nx ls (.ref q :: rest.map (am_cv ka vF ad)))) → W p l e R s m args below meth c H locs cells slots Q (F0 m pc ls (us.map (am_cv ka vF ad) ++ rest.map (am_cv ka vF ad))))
    (h : k (nx, L, (tg, (n : Int)) :: rest, am_new σ n, n + 1) = some r) : G (pc, L, st, σ, n) := by
  have hn : n < 144 := am_tag_lt (by rw [htg]; intro q; rw [q] at hti; exact absurd hti (by decide))
  subst hG
  have h1 := hk _ h
  have nn : n + 1 ≤ nf := h1.1
  refine ⟨by show n ≤ nf; omega, fun H locs cells slots ls ad cA tys P => ?_⟩
  have P : am_Pt s D B0 ka vF md y n0 c0 s0 ad0 ls L st σ n H locs cells slots ad cA tys := P
  have hrow1 := hrow H locs cells slots ls ad cA tys P
  obtain ⟨q1, ⟨w1, w2, w3, w4, w5, w6, w7⟩, q3, q4, q5, q6, g1, g2, g3, g4⟩ := P
  have z1 := am_sz_mono nn
  have z2 := am_sz_mono g1
  have z3 : am_sz (n + 1) = am_sz n + am_len n := rfl
  obtain ⟨r1, r2, r3, r4⟩ := hR
  dsimp only
  rw [hst, List.map_append]
  refine hrow1 (by omega) (by omega) (fun q cN tys' H1 hK' hty hT hP' hD' hS' => ?_)
  have hext : ∀ i, i < n → am_ad ad n q i = ad i := fun i hi => am_ad_lt hi
  have hpush := am_ws_push (q := q) (E := am_en ka vF (am_ad ad n q) (am_ad cA n cN) (am_new σ n) n) w5 w7 hext (fun i hi => am_ad_lt (ad := cA) (q := cN) hi) (fun i j hi => am_new_lt hi) am_ad_n rfl
  rw [hpush] at hP' hD'
  have hstack : rest.map (am_cv ka vF ad) = rest.map (am_cv ka vF (am_ad ad n q)) := List.map_congr_left fun v hv => (am_cv_ext hext (q6 v (by rw [hst]; exact List.mem_append_right _ hv))).symm
  have htop : Value.ref q = am_cv ka vF (am_ad ad n q) (tg, (n : Int)) := by
    rw [am_cv_r hti (by omega) (by omega), Int.toNat_natCast, am_ad_n]
  rw [hstack, htop]
  have h2 := h1.2 H1 locs (cells + 1) (slots + am_len n) ls (am_ad ad n q) (am_ad cA n cN) tys'
  refine h2 ⟨hS', ⟨hP', hD', hK', fun i hi ht => ?_, am_new_okM hn w5, fun hm i j hi hj => ?_, by show n + 1 ≤ 144; omega⟩, am_has_sub q3 (fun v hv => ?_), q4, fun i v hv h9 => am_ok_up (Nat.le_succ n) (q5 i v hv h9), fun v hv => ?_, Nat.le_succ_of_le g1, fun i hi => ?_, by show cells + 1 = c0 + (n + 1 - n0); omega, by show slots + am_len n = s0 + (am_sz (n + 1) - am_sz n0); omega⟩
  · by_cases e : i = n
    · subst e
      rw [am_ad_n]
      exact hT ht
    · obtain ⟨t0, ht0⟩ := w4 i (by dsimp only at hi; omega) ht
      rw [am_ad_lt (by dsimp only at hi; omega)]
      exact ⟨t0, hty t0 _ ht0⟩
  · by_cases e : i = n
    · subst e; rw [hF hm j] at hj; cases hj
    · dsimp only at hi
      show am_new σ n i j = am_fin i j
      rw [am_new_lt (by omega)]
      exact w6 hm i j (by omega) hj
  · obtain ⟨i, w, hw, h9, e⟩ := (am_lv_mem L 0 v).mp hv
    refine (am_lv_mem L 0 v).mpr ⟨i, w, hw, h9, ?_⟩
    rw [e, am_cv_ext hext (q5 i w hw h9)]
  · rcases List.mem_cons.mp hv with rfl | hv
    · refine am_ok_ref hti (Or.inr ⟨by omega, ?_, by rw [Int.toNat_natCast]; exact htg⟩)
      show (n : Int) < ((n + 1 : Nat) : Int)
      omega
    · exact am_ok_up (Nat.le_succ n) (q6 v (by rw [hst]; exact List.mem_append_right _ hv))
  · rw [am_ad_lt (by omega)]
    exact g2 i hi
theorem am_rng (n : Nat) : n < 144 → am_r32 (am_len n : Int) := fun h => by have := am_len_r n h; exact ⟨by omega, by omega⟩
theorem am_awd : Cond.arrayClass .int ∈ am_wa ∧ Cond.arrayClass .long ∈ am_wa ∧ Cond.arrayClass .byte ∈ am_wa ∧ Cond.arrayClass .boolean ∈ am_wa := ⟨am_wa_of (am_tb_in (i := 1) (List.mem_of_getElem? (i := 136) rfl)) rfl, am_wa_of (am_tb_in (i := 1) (List.mem_of_getElem? (i := 137) rfl)) rfl, am_wa_of (am_tb_in (i := 2) (List.mem_of_getElem? (i := 4) rfl)) rfl, am_wa_of (am_tb_in (i := 7) (List.mem_of_getElem? (i := 61) rfl)) rfl⟩
theorem go_newarray_int {p : Program} {l : Launch} {e : Env} {R : Room} {s : State} {m : MethodId} {args : Array Value} {below : List Frame} {meth : Method} {c : Code} {Q : State → Prop} {D : va_G} {B0 : Nat} {ka : Nat → Nat} {vF : Value} {md : Bool} {y n0 c0 s0 : Nat} {ad0 : Nat → Nat} {nf : Nat} {G : am_S → Prop} (hG : G = am_Go p l e R s m args below meth c Q D B0 ka vF md y n0 c0 s0 ad0 nf) (C : am_Cx p s m args c y B0 ka vF) {k : am_S → Option am_R} {r : am_R} (hk : ∀ S, k S = some r → G S) {pc nx : Nat} {L st : List am_V} {σ : am_M} {n : Nat} {d : Nat} (hR : am_Rm R d c0 s0 n0 nf) (hd : decode (am_by y) pc = .ok (.newarray .int, 2)) (hn : nx = pc + 2) (h : (am_i1 st fun j st => bif Nat.beq (am_tag n) 11 then am_if (j = am_len n) (am_m (am_new σ n) fun σ => k (nx, L, (11, (n : Int)) :: st, σ, n + 1)) else none) = some r) : G (pc, L, st, σ, n) := by
  subst hn
  obtain ⟨j, st', est, h1⟩ := am_i1_some h
  obtain ⟨hb, h2⟩ := am_bif_some h1
  obtain ⟨hj, h3⟩ := am_if_some h2
  have htg := am_beq_t hb
  have hn : n < 144 := am_tag_lt (by rw [htg]; decide)
  refine go_alloc hG C hk hR htg (by decide) (us := [(0, j)]) (rest := st') est (fun _ j => am_isfn_a (by simp [htg])) (fun H locs cells slots ls ad cA tys P hc hs K => ?_) h3
  obtain ⟨q1, ⟨w1, w2, w3, w4, w5, w6, w7⟩, q3⟩ := P
  have hr := am_rng n hn
  refine va_newa (atype := .int) (ty := .int) (n := Int32.ofInt j) (N' := am_len n) (a0 := (am_len n, Sum.inl fun _ => (0 : Int32))) C.1 C.2.1 (C.2.2.2.2.1 _ am_awd.1) rfl w3 w1 w2 q1 (fun q hq => Nat.le_trans C.2.2.2.2.2.2.1 hq) (fun cN => rfl) ?_ ?_ ?_ hc hs hd (fun q cN H1 o1 o2 o3 o4 => ?_)
  · rw [hj]; exact am_not_lt hr (by omega)
  · rw [hj, am_i_cl hr (by omega), Int.toNat_natCast]
  · have := am_len_r n hn
    have e8 : componentBytes (.int) ≤ 8 := by decide
    have := Nat.mul_le_mul (Nat.le_of_lt this) e8
    omega
  · refine K q cN _ H1 o1 (fun i e he => ?_) (fun _ => ⟨tys.length, ?_⟩) ?_ ?_ o4
    · have hl := (List.getElem?_eq_some_iff.mp he).1
      rw [List.getElem?_append_left hl]; exact he
    · rw [List.getElem?_append_right (Nat.le_refl _), Nat.sub_self, htg]; rfl
    all_goals
      have eE : am_en ka vF (am_ad ad n q) (am_ad cA n cN) (am_new σ n) n = .inl (cN, am_len n, Sum.inl fun _ => (0 : Int32)) := by
        rw [am_en_i (Or.inl htg), am_ad_n]
        simp only [am_new_n, am_df_arr n hn (by rw [htg]; decide), htg]
        rfl
      rw [eE]
      assumption
theorem go_newarray_long {p : Program} {l : Launch} {e : Env} {R : Room} {s : State} {m : MethodId} {args : Array Value} {below : List Frame} {meth : Method} {c : Code} {Q : State → Prop} {D : va_G} {B0 : Nat} {ka : Nat → Nat} {vF : Value} {md : Bool} {y n0 c0 s0 : Nat} {ad0 : Nat → Nat} {nf : Nat} {G : am_S → Prop} (hG : G = am_Go p l e R s m args below meth c Q D B0 ka vF md y n0 c0 s0 ad0 nf) (C : am_Cx p s m args c y B0 ka vF) {k : am_S → Option am_R} {r : am_R} (hk : ∀ S, k S = some r → G S) {pc nx : Nat} {L st : List am_V} {σ : am_M} {n : Nat} {d : Nat} (hR : am_Rm R d c0 s0 n0 nf) (hd : decode (am_by y) pc = .ok (.newarray .long, 2)) (hn : nx = pc + 2) (h : (am_i1 st fun j st => bif Nat.beq (am_tag n) 12 then am_if (j = am_len n) (am_m (am_new σ n) fun σ => k (nx, L, (12, (n : Int)) :: st, σ, n + 1)) else none) = some r) : G (pc, L, st, σ, n) := by
  subst hn
  obtain ⟨j, st', est, h1⟩ := am_i1_some h
  obtain ⟨hb, h2⟩ := am_bif_some h1
  obtain ⟨hj, h3⟩ := am_if_some h2
  have htg := am_beq_t hb
  have hn : n < 144 := am_tag_lt (by rw [htg]; decide)
  refine go_alloc hG C hk hR htg (by decide) (us := [(0, j)]) (rest := st') est (fun _ j => am_isfn_a (by simp [htg])) (fun H locs cells slots ls ad cA tys P hc hs K => ?_) h3
  obtain ⟨q1, ⟨w1, w2, w3, w4, w5, w6, w7⟩, q3⟩ := P
  have hr := am_rng n hn
  refine va_newa (atype := .long) (ty := .long) (n := Int32.ofInt j) (N' := am_len n) (a0 := (am_len n, Sum.inr (Sum.inl fun _ => (0 : Int64)))) C.1 C.2.1 (C.2.2.2.2.1 _ am_awd.2.1) rfl w3 w1 w2 q1 (fun q hq => Nat.le_trans C.2.2.2.2.2.2.1 hq) (fun cN => rfl) ?_ ?_ ?_ hc hs hd (fun q cN H1 o1 o2 o3 o4 => ?_)
  · rw [hj]; exact am_not_lt hr (by omega)
  · rw [hj, am_i_cl hr (by omega), Int.toNat_natCast]
  · have := am_len_r n hn
    have e8 : componentBytes (.long) ≤ 8 := by decide
    have := Nat.mul_le_mul (Nat.le_of_lt this) e8
    omega
  · refine K q cN _ H1 o1 (fun i e he => ?_) (fun _ => ⟨tys.length, ?_⟩) ?_ ?_ o4
    · have hl := (List.getElem?_eq_some_iff.mp he).1
      rw [List.getElem?_append_left hl]; exact he
    · rw [List.getElem?_append_right (Nat.le_refl _), Nat.sub_self, htg]; rfl
    all_goals
      have eE : am_en ka vF (am_ad ad n q) (am_ad cA n cN) (am_new σ n) n = .inl (cN, am_len n, Sum.inr (Sum.inl fun _ => (0 : Int64))) := by
        rw [am_en_l htg, am_ad_n]
        simp only [am_new_n, am_df_arr n hn (by rw [htg]; decide), htg]
        rfl
      rw [eE]
      assumption
theorem go_newarray_byte {p : Program} {l : Launch} {e : Env} {R : Room} {s : State} {m : MethodId} {args : Array Value} {below : List Frame} {meth : Method} {c : Code} {Q : State → Prop} {D : va_G} {B0 : Nat} {ka : Nat → Nat} {vF : Value} {md : Bool} {y n0 c0 s0 : Nat} {ad0 : Nat → Nat} {nf : Nat} {G : am_S → Prop} (hG : G = am_Go p l e R s m args below meth c Q D B0 ka vF md y n0 c0 s0 ad0 nf) (C : am_Cx p s m args c y B0 ka vF) {k : am_S → Option am_R} {r : am_R} (hk : ∀ S, k S = some r → G S) {pc nx : Nat} {L st : List am_V} {σ : am_M} {n : Nat} {d : Nat} (hR : am_Rm R d c0 s0 n0 nf) (hd : decode (am_by y) pc = .ok (.newarray .byte, 2)) (hn : nx = pc + 2) (h : (am_i1 st fun j st => bif Nat.beq (am_tag n) 13 then am_if (j = am_len n) (am_m (am_new σ n) fun σ => k (nx, L, (13, (n : Int)) :: st, σ, n + 1)) else none) = some r) : G (pc, L, st, σ, n) := by
  subst hn
  obtain ⟨j, st', est, h1⟩ := am_i1_some h
  obtain ⟨hb, h2⟩ := am_bif_some h1
  obtain ⟨hj, h3⟩ := am_if_some h2
  have htg := am_beq_t hb
  have hn : n < 144 := am_tag_lt (by rw [htg]; decide)
  refine go_alloc hG C hk hR htg (by decide) (us := [(0, j)]) (rest := st') est (fun _ j => am_isfn_a (by simp [htg])) (fun H locs cells slots ls ad cA tys P hc hs K => ?_) h3
  obtain ⟨q1, ⟨w1, w2, w3, w4, w5, w6, w7⟩, q3⟩ := P
  have hr := am_rng n hn
  refine va_newa (atype := .byte) (ty := .byte) (n := Int32.ofInt j) (N' := am_len n) (a0 := (am_len n, Sum.inl fun _ => (0 : Int32))) C.1 C.2.1 (C.2.2.2.2.1 _ am_awd.2.2.1) rfl w3 w1 w2 q1 (fun q hq => Nat.le_trans C.2.2.2.2.2.2.1 hq) (fun cN => rfl) ?_ ?_ ?_ hc hs hd (fun q cN H1 o1 o2 o3 o4 => ?_)
  · rw [hj]; exact am_not_lt hr (by omega)
  · rw [hj, am_i_cl hr (by omega), Int.toNat_natCast]
  · have := am_len_r n hn
    have e8 : componentBytes (.byte) ≤ 8 := by decide
    have := Nat.mul_le_mul (Nat.le_of_lt this) e8
    omega
  · refine K q cN _ H1 o1 (fun i e he => ?_) (fun _ => ⟨tys.length, ?_⟩) ?_ ?_ o4
    · have hl := (List.getElem?_eq_some_iff.mp he).1
      rw [List.getElem?_append_left hl]; exact he
    · rw [List.getElem?_append_right (Nat.le_refl _), Nat.sub_self, htg]; rfl
    all_goals
      have eE : am_en ka vF (am_ad ad n q) (am_ad cA n cN) (am_new σ n) n = .inl (cN, am_len n, Sum.inl fun _ => (0 : Int32)) := by
        rw [am_en_i (Or.inr (Or.inl htg)), am_ad_n]
        simp only [am_new_n, am_df_arr n hn (by rw [htg]; decide), htg]
        rfl
      rw [eE]
      assumption
theorem go_newarray_boolean {p : Program} {l : Launch} {e : Env} {R : Room} {s : State} {m : MethodId} {args : Array Value} {below : List Frame} {meth : Method} {c : Code} {Q : State → Prop} {D : va_G} {B0 : Nat} {ka : Nat → Nat} {vF : Value} {md : Bool} {y n0 c0 s0 : Nat} {ad0 : Nat → Nat} {nf : Nat} {G : am_S → Prop} (hG : G = am_Go p l e R s m args below meth c Q D B0 ka vF md y n0 c0 s0 ad0 nf) (C : am_Cx p s m args c y B0 ka vF) {k : am_S → Option am_R} {r : am_R} (hk : ∀ S, k S = some r → G S) {pc nx : Nat} {L st : List am_V} {σ : am_M} {n : Nat} {d : Nat} (hR : am_Rm R d c0 s0 n0 nf) (hd : decode (am_by y) pc = .ok (.newarray .boolean, 2)) (hn : nx = pc + 2) (h : (am_i1 st fun j st => bif Nat.beq (am_tag n) 14 then am_if (j = am_len n) (am_m (am_new σ n) fun σ => k (nx, L, (14, (n : Int)) :: st, σ, n + 1)) else none) = some r) : G (pc, L, st, σ, n) := by
  subst hn
  obtain ⟨j, st', est, h1⟩ := am_i1_some h
  obtain ⟨hb, h2⟩ := am_bif_some h1
  obtain ⟨hj, h3⟩ := am_if_some h2
  have htg := am_beq_t hb
  have hn : n < 144 := am_tag_lt (by rw [htg]; decide)
  refine go_alloc hG C hk hR htg (by decide) (us := [(0, j)]) (rest := st') est (fun _ j => am_isfn_a (by simp [htg])) (fun H locs cells slots ls ad cA tys P hc hs K => ?_) h3
  obtain ⟨q1, ⟨w1, w2, w3, w4, w5, w6, w7⟩, q3⟩ := P
  have hr := am_rng n hn
  refine va_newa (atype := .boolean) (ty := .boolean) (n := Int32.ofInt j) (N' := am_len n) (a0 := (am_len n, Sum.inl fun _ => (0 : Int32))) C.1 C.2.1 (C.2.2.2.2.1 _ am_awd.2.2.2) rfl w3 w1 w2 q1 (fun q hq => Nat.le_trans C.2.2.2.2.2.2.1 hq) (fun cN => rfl) ?_ ?_ ?_ hc hs hd (fun q cN H1 o1 o2 o3 o4 => ?_)
  · rw [hj]; exact am_not_lt hr (by omega)
  · rw [hj, am_i_cl hr (by omega), Int.toNat_natCast]
  · have := am_len_r n hn
    have e8 : componentBytes (.boolean) ≤ 8 := by decide
    have := Nat.mul_le_mul (Nat.le_of_lt this) e8
    omega
  · refine K q cN _ H1 o1 (fun i e he => ?_) (fun _ => ⟨tys.length, ?_⟩) ?_ ?_ o4
    · have hl := (List.getElem?_eq_some_iff.mp he).1
      rw [List.getElem?_append_left hl]; exact he
    · rw [List.getElem?_append_right (Nat.le_refl _), Nat.sub_self, htg]; rfl
    all_goals
      have eE : am_en ka vF (am_ad ad n q) (am_ad cA n cN) (am_new σ n) n = .inl (cN, am_len n, Sum.inl fun _ => (0 : Int32)) := by
        rw [am_en_i (Or.inr (Or.inr htg)), am_ad_n]
        simp only [am_new_n, am_df_arr n hn (by rw [htg]; decide), htg]
        rfl
      rw [eE]
      assumption
