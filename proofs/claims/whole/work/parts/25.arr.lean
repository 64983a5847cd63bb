theorem go_mem {p : Program} {l : Launch} {e : Env} {R : Room} {s : State} {m : MethodId} {args : Array Value} {below : List Frame} {meth : Method} {c : Code} {Q : State → Prop} {D : va_G} {B0 : Nat} {ka : Nat → Nat} {vF : Value} {md : Bool} {y n0 c0 s0 : Nat} {ad0 : Nat → Nat} {nf : Nat} {G : am_S → Prop} (hG : G = am_Go p l e R s m args below meth c Q D B0 ka vF md y n0 c0 s0 ad0 nf) (C : am_Cx p s m args c y B0 ka vF) {k : am_S → Option am_R} {r : am_R} (hk : ∀ S, k S = some r → G S) {pc nx : Nat} {L st : List am_V} {σ : am_M} {n : Nat} {σ' : am_M} {us rest : List am_V} (hst : st = us ++ rest) (hrow : ∀ (H : Heap) (locs : List Loc) (cells slots : Nat) (ls : Array Slot) (ad cA : Nat → Nat) (tys : List (ClassId × FieldType)), am_Pt s D B0 ka vF md y n0 c0 s0 ad0 ls L st σ n H locs cells slots ad cA tys → am_okM n σ' ∧ am_okF md n σ' ∧ ((∀ (H1 : Heap) (locs1 : List Loc), va_P D am_cl (am_ws ka vF ad cA σ' n) H1 → va_D (fun q => B0 ≤ q) (am_ws ka vF ad cA σ' n) → va_S (fun q => B0 ≤ q) s.heap H1 locs1 → W p l e R s m args below meth c H1 locs1 cells slots Q (F0 m nx ls (rest.map (am_cv ka vF ad)))) → W p l e R s m args below meth c H locs cells slots Q (F0 m pc ls (us.map (am_cv ka vF ad) ++ rest.map (am_cv ka vF ad))))) (h : k (nx, L, rest, σ', n) = some r) : G (pc, L, st, σ, n) := by
  subst hG
  have h1 := hk _ h
  refine ⟨h1.1, fun H locs cells slots ls ad cA tys P => ?_⟩
  obtain ⟨m1, m2, hr⟩ := hrow H locs cells slots ls ad cA tys P
  obtain ⟨q1, ⟨w1, w2, w3, w4, w5, w6, w7⟩, q3, q4, q5, q6, q7⟩ := P
  dsimp only
  rw [hst, List.map_append]
  exact hr fun H1 locs1 hP hD hS => h1.2 H1 locs1 cells slots ls ad cA tys ⟨hS, ⟨hP, hD, w3, w4, m1, m2, w7⟩, q3, q4, q5, fun v hv => q6 v (by rw [hst]; exact List.mem_append_right _ hv), q7⟩
theorem am_wr_ne {σ : am_M} {i k i' j : Nat} {v : Int} (h : i' ≠ i) : am_wr σ i k v i' j = σ i' j := if_neg fun q => h q.1
theorem am_wr_at {σ : am_M} {i k j : Nat} {v : Int} : am_wr σ i k v i j = if j = k then v else σ i j := by
  unfold am_wr
  by_cases h : j = k
  · rw [if_pos ⟨rfl, h⟩, if_pos h]
  · rw [if_neg fun q => h q.2, if_neg h]
theorem am_wr_okM {σ : am_M} {n i k : Nat} {v : Int} (h : am_okM n σ) (hv : am_ok n (am_sl i k, v)) : am_okM n (am_wr σ i k v) := by
  intro i' j hi hj
  by_cases e : i' = i
  · subst e
    rw [am_wr_at]
    by_cases e2 : j = k
    · subst e2; rw [if_pos rfl]; exact hv
    · rw [if_neg e2]; exact h i' j hi hj
  · rw [am_wr_ne e]; exact h i' j hi hj
theorem am_wr_okF {σ : am_M} {md : Bool} {n i k : Nat} {v : Int} (h : am_okF md n σ) (hv : md = true → am_isfn i k = false) : am_okF md n (am_wr σ i k v) := by
  intro hm i' j hi hj
  by_cases e : i' = i
  · subst e
    rw [am_wr_at]
    by_cases e2 : j = k
    · subst e2; rw [hv hm] at hj; cases hj
    · rw [if_neg e2]; exact h hm i' j hi hj
  · rw [am_wr_ne e]; exact h hm i' j hi hj
theorem am_isfn_a {i k : Nat} (h : am_tag i = 11 ∨ am_tag i = 12 ∨ am_tag i = 13 ∨ am_tag i = 14) : am_isfn i k = false := by
  unfold am_isfn
  rcases h with h | h | h | h <;> rw [h] <;> rfl
theorem am_sl_a {i k : Nat} (h : am_tag i = 11 ∨ am_tag i = 13 ∨ am_tag i = 14) : am_sl i k = 0 := by
  unfold am_sl
  rcases h with h | h | h <;> rw [h] <;> rfl
theorem am_sl_12 {i k : Nat} (h : am_tag i = 12) : am_sl i k = 1 := by unfold am_sl; rw [h]; rfl
theorem am_sl_15 {i k : Nat} (h : am_tag i = 15) : am_sl i k = 106 := by unfold am_sl; rw [h]; rfl
theorem am_i_bool (v : Int) : vp_nar .boolean (Int32.ofInt v) = Int32.ofInt (v % 2) := by
  show (Int32.ofInt v) &&& 1 = _
  rw [pk_and (Int32.ofInt v) (m := 1) 1 (by decide)]
  have e := am_i_tn v
  refine am_i_eq ?_
  rw [nI_toInt (by omega)]
  omega
theorem am_ix_some {rr j : Int} {x : Option am_R} {r : am_R} (h : am_ix rr j x = some r) : ¬ rr < 0 ∧ 0 ≤ j ∧ j < am_len rr.toNat ∧ x = some r := by
  obtain ⟨⟨a, b, c⟩, d⟩ := am_if_some h
  exact ⟨a, b, c, d⟩
theorem am_isr_a : am_isr 11 = true ∧ am_isr 12 = true ∧ am_isr 13 = true ∧ am_isr 14 = true ∧ am_isr 15 = true := by decide
theorem go_iastore {p : Program} {l : Launch} {e : Env} {R : Room} {s : State} {m : MethodId} {args : Array Value} {below : List Frame} {meth : Method} {c : Code} {Q : State → Prop} {D : va_G} {B0 : Nat} {ka : Nat → Nat} {vF : Value} {md : Bool} {y n0 c0 s0 : Nat} {ad0 : Nat → Nat} {nf : Nat} {G : am_S → Prop} (hG : G = am_Go p l e R s m args below meth c Q D B0 ka vF md y n0 c0 s0 ad0 nf) (C : am_Cx p s m args c y B0 ka vF) {k : am_S → Option am_R} {r : am_R} (hk : ∀ S, k S = some r → G S) {pc nx : Nat} {L st : List am_V} {σ : am_M} {n : Nat} {rr j v : Int} {st' : List am_V} (hst : st = (0, v) :: (0, j) :: (11, rr) :: st') (hd : decode (am_by y) pc = .ok (.iastore, 1)) (hn : nx = pc + 1) (h : am_ix rr j (am_m (am_wr σ rr.toNat j.toNat v) fun σ => k (nx, L, st', σ, n)) = some r) : G (pc, L, st, σ, n) := by
  subst hn
  obtain ⟨h0, hj0, hj1, h1⟩ := am_ix_some h
  refine go_mem hG C hk (us := [(0, v), (0, j), (11, rr)]) (rest := st') hst (fun H locs cells slots ls ad cA tys P => ?_) h1
  subst hst
  obtain ⟨q1, ⟨w1, w2, w3, w4, w5, w6, w7⟩, q3, q4, q5, q6, q7⟩ := P
  have hv := am_ok_i (q6 (0, v) (by simp))
  have hj := am_ok_i (q6 (0, j) (by simp))
  obtain ⟨a1, a2, a3⟩ := am_okc_lt (t := 11) am_isr_a.1 (q6 (11, rr) (by simp)) h0
  obtain ⟨t0, ht0⟩ := w4 rr.toNat a1 (by rw [a2]; decide)
  rw [a2] at ht0
  refine ⟨am_wr_okM w5 (by rw [am_sl_a (Or.inl a2)]; exact am_ok_0 (am_ok_i (q6 (0, v) (by simp)))), am_wr_okF w6 (fun _ => am_isfn_a (by simp [a2])), fun K => ?_⟩
  have hset : ∀ E, am_en ka vF ad cA (am_wr σ rr.toNat j.toNat v) rr.toNat = E → (am_ws ka vF ad cA σ n).set rr.toNat (ad rr.toNat, E) = am_ws ka vF ad cA (am_wr σ rr.toNat j.toNat v) n := fun E hE => am_ws_set a1 hE (fun i' j' hi => am_wr_ne hi)
  show W p l e R s m args below meth c H locs cells slots Q (F0 m pc ls (.int (Int32.ofInt v) :: .int (Int32.ofInt j) :: am_cv ka vF ad (11, rr) :: st'.map (am_cv ka vF ad)))
  rw [am_cv_r (t := 11) am_isr_a.1 h0 (by omega)]
  refine va_iast C.1 C.2.1 w3 w1 w2 q1 rr.toNat t0 ((am_ws_at a1).trans (by rw [am_en_i (Or.inl a2)])) ht0 (am_i_in hj hj0 hj1) hd (fun H1 locs1 e1 e2 e3 => ?_)
  rw [hset] at e1 e2
  · exact K H1 locs1 e1 e2 e3
  all_goals
    rw [am_en_i (Or.inl a2)]
    refine congrArg (fun f => (Sum.inl (cA rr.toNat, am_len rr.toNat, Sum.inl f) : va_E)) (funext fun j' => ?_)
    rw [am_wr_at, am_i_cl hj hj0]
    unfold upd
    by_cases q : j' = j.toNat
    · rw [if_pos q, if_pos q]
    · rw [if_neg q, if_neg q]
theorem go_lastore {p : Program} {l : Launch} {e : Env} {R : Room} {s : State} {m : MethodId} {args : Array Value} {below : List Frame} {meth : Method} {c : Code} {Q : State → Prop} {D : va_G} {B0 : Nat} {ka : Nat → Nat} {vF : Value} {md : Bool} {y n0 c0 s0 : Nat} {ad0 : Nat → Nat} {nf : Nat} {G : am_S → Prop} (hG : G = am_Go p l e R s m args below meth c Q D B0 ka vF md y n0 c0 s0 ad0 nf) (C : am_Cx p s m args c y B0 ka vF) {k : am_S → Option am_R} {r : am_R} (hk : ∀ S, k S = some r → G S) {pc nx : Nat} {L st : List am_V} {σ : am_M} {n : Nat} {rr j v : Int} {st' : List am_V} (hst : st = (1, v) :: (0, j) :: (12, rr) :: st') (hd : decode (am_by y) pc = .ok (.lastore, 1)) (hn : nx = pc + 1) (h : am_ix rr j (am_m (am_wr σ rr.toNat j.toNat v) fun σ => k (nx, L, st', σ, n)) = some r) : G (pc, L, st, σ, n) := by
  subst hn
  obtain ⟨h0, hj0, hj1, h1⟩ := am_ix_some h
  refine go_mem hG C hk (us := [(1, v), (0, j), (12, rr)]) (rest := st') hst (fun H locs cells slots ls ad cA tys P => ?_) h1
  subst hst
  obtain ⟨q1, ⟨w1, w2, w3, w4, w5, w6, w7⟩, q3, q4, q5, q6, q7⟩ := P
  have hv := am_ok_l (q6 (1, v) (by simp))
  have hj := am_ok_i (q6 (0, j) (by simp))
  obtain ⟨a1, a2, a3⟩ := am_okc_lt (t := 12) am_isr_a.2.1 (q6 (12, rr) (by simp)) h0
  obtain ⟨t0, ht0⟩ := w4 rr.toNat a1 (by rw [a2]; decide)
  rw [a2] at ht0
  refine ⟨am_wr_okM w5 (by rw [am_sl_12 a2]; exact am_ok_1 (am_ok_l (q6 (1, v) (by simp)))), am_wr_okF w6 (fun _ => am_isfn_a (by simp [a2])), fun K => ?_⟩
  have hset : ∀ E, am_en ka vF ad cA (am_wr σ rr.toNat j.toNat v) rr.toNat = E → (am_ws ka vF ad cA σ n).set rr.toNat (ad rr.toNat, E) = am_ws ka vF ad cA (am_wr σ rr.toNat j.toNat v) n := fun E hE => am_ws_set a1 hE (fun i' j' hi => am_wr_ne hi)
  show W p l e R s m args below meth c H locs cells slots Q (F0 m pc ls (.long (Int64.ofInt v) :: .int (Int32.ofInt j) :: am_cv ka vF ad (12, rr) :: st'.map (am_cv ka vF ad)))
  rw [am_cv_r (t := 12) am_isr_a.2.1 h0 (by omega)]
  refine va_last C.1 C.2.1 w3 w1 w2 q1 rr.toNat t0 ((am_ws_at a1).trans (by rw [am_en_l a2])) ht0 (am_i_in hj hj0 hj1) hd (fun H1 locs1 e1 e2 e3 => ?_)
  rw [hset] at e1 e2
  · exact K H1 locs1 e1 e2 e3
  all_goals
    rw [am_en_l a2]
    refine congrArg (fun f => (Sum.inl (cA rr.toNat, am_len rr.toNat, Sum.inr (Sum.inl f)) : va_E)) (funext fun j' => ?_)
    rw [am_wr_at, am_i_cl hj hj0]
    unfold vp_updL
    by_cases q : j' = j.toNat
    · rw [if_pos q, if_pos q]
    · rw [if_neg q, if_neg q]
theorem go_bastore {p : Program} {l : Launch} {e : Env} {R : Room} {s : State} {m : MethodId} {args : Array Value} {below : List Frame} {meth : Method} {c : Code} {Q : State → Prop} {D : va_G} {B0 : Nat} {ka : Nat → Nat} {vF : Value} {md : Bool} {y n0 c0 s0 : Nat} {ad0 : Nat → Nat} {nf : Nat} {G : am_S → Prop} (hG : G = am_Go p l e R s m args below meth c Q D B0 ka vF md y n0 c0 s0 ad0 nf) (C : am_Cx p s m args c y B0 ka vF) {k : am_S → Option am_R} {r : am_R} (hk : ∀ S, k S = some r → G S) {pc nx : Nat} {L st : List am_V} {σ : am_M} {n : Nat} {rr j v : Int} {st' : List am_V} (hst : st = (0, v) :: (0, j) :: (13, rr) :: st') (hd : decode (am_by y) pc = .ok (.bastore, 1)) (hn : nx = pc + 1) (h : am_ix rr j (am_m (am_wr σ rr.toNat j.toNat (am_w8 v)) fun σ => k (nx, L, st', σ, n)) = some r) : G (pc, L, st, σ, n) := by
  subst hn
  obtain ⟨h0, hj0, hj1, h1⟩ := am_ix_some h
  refine go_mem hG C hk (us := [(0, v), (0, j), (13, rr)]) (rest := st') hst (fun H locs cells slots ls ad cA tys P => ?_) h1
  subst hst
  obtain ⟨q1, ⟨w1, w2, w3, w4, w5, w6, w7⟩, q3, q4, q5, q6, q7⟩ := P
  have hv := am_ok_i (q6 (0, v) (by simp))
  have hj := am_ok_i (q6 (0, j) (by simp))
  obtain ⟨a1, a2, a3⟩ := am_okc_lt (t := 13) am_isr_a.2.2.1 (q6 (13, rr) (by simp)) h0
  obtain ⟨t0, ht0⟩ := w4 rr.toNat a1 (by rw [a2]; decide)
  rw [a2] at ht0
  refine ⟨am_wr_okM w5 (by rw [am_sl_a (Or.inr (Or.inl a2))]; exact am_ok_0 (by have := am_w8_r v; exact ⟨by omega, by omega⟩)), am_wr_okF w6 (fun _ => am_isfn_a (by simp [a2])), fun K => ?_⟩
  have hset : ∀ E, am_en ka vF ad cA (am_wr σ rr.toNat j.toNat (am_w8 v)) rr.toNat = E → (am_ws ka vF ad cA σ n).set rr.toNat (ad rr.toNat, E) = am_ws ka vF ad cA (am_wr σ rr.toNat j.toNat (am_w8 v)) n := fun E hE => am_ws_set a1 hE (fun i' j' hi => am_wr_ne hi)
  show W p l e R s m args below meth c H locs cells slots Q (F0 m pc ls (.int (Int32.ofInt v) :: .int (Int32.ofInt j) :: am_cv ka vF ad (13, rr) :: st'.map (am_cv ka vF ad)))
  rw [am_cv_r (t := 13) am_isr_a.2.2.1 h0 (by omega)]
  refine va_bast C.1 C.2.1 w3 w1 w2 q1 rr.toNat t0 ((am_ws_at a1).trans (by rw [am_en_i (Or.inr (Or.inl a2))])) ht0 (am_i_in hj hj0 hj1) hd (fun H1 locs1 e1 e2 e3 => ?_)
  rw [hset] at e1 e2
  · exact K H1 locs1 e1 e2 e3
  all_goals
    rw [am_en_i (Or.inr (Or.inl a2))]
    refine congrArg (fun f => (Sum.inl (cA rr.toNat, am_len rr.toNat, Sum.inl f) : va_E)) (funext fun j' => ?_)
    rw [am_wr_at, am_i_cl hj hj0]
    unfold upd
    by_cases q : j' = j.toNat
    · rw [if_pos q, if_pos q]; rw [vp_nar_byte]; exact (am_i2b hv).symm
    · rw [if_neg q, if_neg q]
theorem go_zastore {p : Program} {l : Launch} {e : Env} {R : Room} {s : State} {m : MethodId} {args : Array Value} {below : List Frame} {meth : Method} {c : Code} {Q : State → Prop} {D : va_G} {B0 : Nat} {ka : Nat → Nat} {vF : Value} {md : Bool} {y n0 c0 s0 : Nat} {ad0 : Nat → Nat} {nf : Nat} {G : am_S → Prop} (hG : G = am_Go p l e R s m args below meth c Q D B0 ka vF md y n0 c0 s0 ad0 nf) (C : am_Cx p s m args c y B0 ka vF) {k : am_S → Option am_R} {r : am_R} (hk : ∀ S, k S = some r → G S) {pc nx : Nat} {L st : List am_V} {σ : am_M} {n : Nat} {rr j v : Int} {st' : List am_V} (hst : st = (0, v) :: (0, j) :: (14, rr) :: st') (hd : decode (am_by y) pc = .ok (.bastore, 1)) (hn : nx = pc + 1) (h : am_ix rr j (am_m (am_wr σ rr.toNat j.toNat (v % 2)) fun σ => k (nx, L, st', σ, n)) = some r) : G (pc, L, st, σ, n) := by
  subst hn
  obtain ⟨h0, hj0, hj1, h1⟩ := am_ix_some h
  refine go_mem hG C hk (us := [(0, v), (0, j), (14, rr)]) (rest := st') hst (fun H locs cells slots ls ad cA tys P => ?_) h1
  subst hst
  obtain ⟨q1, ⟨w1, w2, w3, w4, w5, w6, w7⟩, q3, q4, q5, q6, q7⟩ := P
  have hv := am_ok_i (q6 (0, v) (by simp))
  have hj := am_ok_i (q6 (0, j) (by simp))
  obtain ⟨a1, a2, a3⟩ := am_okc_lt (t := 14) am_isr_a.2.2.2.1 (q6 (14, rr) (by simp)) h0
  obtain ⟨t0, ht0⟩ := w4 rr.toNat a1 (by rw [a2]; decide)
  rw [a2] at ht0
  refine ⟨am_wr_okM w5 (by rw [am_sl_a (Or.inr (Or.inr a2))]; exact am_ok_0 ⟨by omega, by omega⟩), am_wr_okF w6 (fun _ => am_isfn_a (by simp [a2])), fun K => ?_⟩
  have hset : ∀ E, am_en ka vF ad cA (am_wr σ rr.toNat j.toNat (v % 2)) rr.toNat = E → (am_ws ka vF ad cA σ n).set rr.toNat (ad rr.toNat, E) = am_ws ka vF ad cA (am_wr σ rr.toNat j.toNat (v % 2)) n := fun E hE => am_ws_set a1 hE (fun i' j' hi => am_wr_ne hi)
  show W p l e R s m args below meth c H locs cells slots Q (F0 m pc ls (.int (Int32.ofInt v) :: .int (Int32.ofInt j) :: am_cv ka vF ad (14, rr) :: st'.map (am_cv ka vF ad)))
  rw [am_cv_r (t := 14) am_isr_a.2.2.2.1 h0 (by omega)]
  refine va_zast C.1 C.2.1 w3 w1 w2 q1 rr.toNat t0 ((am_ws_at a1).trans (by rw [am_en_i (Or.inr (Or.inr a2))])) ht0 (am_i_in hj hj0 hj1) hd (fun H1 locs1 e1 e2 e3 => ?_)
  rw [hset] at e1 e2
  · exact K H1 locs1 e1 e2 e3
  all_goals
    rw [am_en_i (Or.inr (Or.inr a2))]
    refine congrArg (fun f => (Sum.inl (cA rr.toNat, am_len rr.toNat, Sum.inl f) : va_E)) (funext fun j' => ?_)
    rw [am_wr_at, am_i_cl hj hj0]
    unfold upd
    by_cases q : j' = j.toNat
    · rw [if_pos q, if_pos q]; exact (am_i_bool v).symm
    · rw [if_neg q, if_neg q]
theorem go_iaload {p : Program} {l : Launch} {e : Env} {R : Room} {s : State} {m : MethodId} {args : Array Value} {below : List Frame} {meth : Method} {c : Code} {Q : State → Prop} {D : va_G} {B0 : Nat} {ka : Nat → Nat} {vF : Value} {md : Bool} {y n0 c0 s0 : Nat} {ad0 : Nat → Nat} {nf : Nat} {G : am_S → Prop} (hG : G = am_Go p l e R s m args below meth c Q D B0 ka vF md y n0 c0 s0 ad0 nf) (C : am_Cx p s m args c y B0 ka vF) {k : am_S → Option am_R} {r : am_R} (hk : ∀ S, k S = some r → G S) {pc nx : Nat} {L st : List am_V} {σ : am_M} {n : Nat} {rr j : Int} {st' : List am_V} (hst : st = (0, j) :: (11, rr) :: st') (hd : decode (am_by y) pc = .ok (.iaload, 1)) (hn : nx = pc + 1) (h : am_ix rr j (k (nx, L, (0, σ rr.toNat j.toNat) :: st', σ, n)) = some r) : G (pc, L, st, σ, n) := by
  subst hn
  obtain ⟨h0, hj0, hj1, h1⟩ := am_ix_some h
  refine go_rep hG C hk (us := [(0, j), (11, rr)]) (vs := [(0, σ rr.toNat j.toNat)]) (rest := st') hst (fun H locs cells slots ls ad cA tys P => ?_) h1
  subst hst
  obtain ⟨q1, ⟨w1, w2, w3, w4, w5, w6, w7⟩, q3, q4, q5, q6, q7⟩ := P
  have hj := am_ok_i (q6 (0, j) (by simp))
  obtain ⟨a1, a2, a3⟩ := am_okc_lt (t := 11) am_isr_a.1 (q6 (11, rr) (by simp)) h0
  obtain ⟨t0, ht0⟩ := w4 rr.toNat a1 (by rw [a2]; decide)
  rw [a2] at ht0
  refine ⟨fun v hv => ?_, fun K => ?_⟩
  · rw [List.mem_singleton] at hv; subst hv
    have := w5 rr.toNat j.toNat a1 (by omega)
    rw [am_sl_a (Or.inl a2)] at this
    exact this
  show W p l e R s m args below meth c H locs cells slots Q (F0 m pc ls (.int (Int32.ofInt j) :: am_cv ka vF ad (11, rr) :: st'.map (am_cv ka vF ad)))
  rw [am_cv_r (t := 11) am_isr_a.1 h0 (by omega)]
  refine va_iald C.1 C.2.1 w3 w1 rr.toNat t0 ((am_ws_at a1).trans (by rw [am_en_i (Or.inl a2)])) ht0 (am_i_in hj hj0 hj1) hd ?_
  rw [am_i_cl hj hj0]
  exact K
theorem go_laload {p : Program} {l : Launch} {e : Env} {R : Room} {s : State} {m : MethodId} {args : Array Value} {below : List Frame} {meth : Method} {c : Code} {Q : State → Prop} {D : va_G} {B0 : Nat} {ka : Nat → Nat} {vF : Value} {md : Bool} {y n0 c0 s0 : Nat} {ad0 : Nat → Nat} {nf : Nat} {G : am_S → Prop} (hG : G = am_Go p l e R s m args below meth c Q D B0 ka vF md y n0 c0 s0 ad0 nf) (C : am_Cx p s m args c y B0 ka vF) {k : am_S → Option am_R} {r : am_R} (hk : ∀ S, k S = some r → G S) {pc nx : Nat} {L st : List am_V} {σ : am_M} {n : Nat} {rr j : Int} {st' : List am_V} (hst : st = (0, j) :: (12, rr) :: st') (hd : decode (am_by y) pc = .ok (.laload, 1)) (hn : nx = pc + 1) (h : am_ix rr j (k (nx, L, (1, σ rr.toNat j.toNat) :: st', σ, n)) = some r) : G (pc, L, st, σ, n) := by
  subst hn
  obtain ⟨h0, hj0, hj1, h1⟩ := am_ix_some h
  refine go_rep hG C hk (us := [(0, j), (12, rr)]) (vs := [(1, σ rr.toNat j.toNat)]) (rest := st') hst (fun H locs cells slots ls ad cA tys P => ?_) h1
  subst hst
  obtain ⟨q1, ⟨w1, w2, w3, w4, w5, w6, w7⟩, q3, q4, q5, q6, q7⟩ := P
  have hj := am_ok_i (q6 (0, j) (by simp))
  obtain ⟨a1, a2, a3⟩ := am_okc_lt (t := 12) am_isr_a.2.1 (q6 (12, rr) (by simp)) h0
  obtain ⟨t0, ht0⟩ := w4 rr.toNat a1 (by rw [a2]; decide)
  rw [a2] at ht0
  refine ⟨fun v hv => ?_, fun K => ?_⟩
  · rw [List.mem_singleton] at hv; subst hv
    have := w5 rr.toNat j.toNat a1 (by omega)
    rw [am_sl_12 a2] at this
    exact this
  show W p l e R s m args below meth c H locs cells slots Q (F0 m pc ls (.int (Int32.ofInt j) :: am_cv ka vF ad (12, rr) :: st'.map (am_cv ka vF ad)))
  rw [am_cv_r (t := 12) am_isr_a.2.1 h0 (by omega)]
  refine va_lald C.1 C.2.1 w3 w1 rr.toNat t0 ((am_ws_at a1).trans (by rw [am_en_l a2])) ht0 (am_i_in hj hj0 hj1) hd ?_
  rw [am_i_cl hj hj0]
  exact K
theorem go_baload {p : Program} {l : Launch} {e : Env} {R : Room} {s : State} {m : MethodId} {args : Array Value} {below : List Frame} {meth : Method} {c : Code} {Q : State → Prop} {D : va_G} {B0 : Nat} {ka : Nat → Nat} {vF : Value} {md : Bool} {y n0 c0 s0 : Nat} {ad0 : Nat → Nat} {nf : Nat} {G : am_S → Prop} (hG : G = am_Go p l e R s m args below meth c Q D B0 ka vF md y n0 c0 s0 ad0 nf) (C : am_Cx p s m args c y B0 ka vF) {k : am_S → Option am_R} {r : am_R} (hk : ∀ S, k S = some r → G S) {pc nx : Nat} {L st : List am_V} {σ : am_M} {n : Nat} {rr j : Int} {st' : List am_V} (hst : st = (0, j) :: (13, rr) :: st') (hd : decode (am_by y) pc = .ok (.baload, 1)) (hn : nx = pc + 1) (h : am_ix rr j (k (nx, L, (0, σ rr.toNat j.toNat) :: st', σ, n)) = some r) : G (pc, L, st, σ, n) := by
  subst hn
  obtain ⟨h0, hj0, hj1, h1⟩ := am_ix_some h
  refine go_rep hG C hk (us := [(0, j), (13, rr)]) (vs := [(0, σ rr.toNat j.toNat)]) (rest := st') hst (fun H locs cells slots ls ad cA tys P => ?_) h1
  subst hst
  obtain ⟨q1, ⟨w1, w2, w3, w4, w5, w6, w7⟩, q3, q4, q5, q6, q7⟩ := P
  have hj := am_ok_i (q6 (0, j) (by simp))
  obtain ⟨a1, a2, a3⟩ := am_okc_lt (t := 13) am_isr_a.2.2.1 (q6 (13, rr) (by simp)) h0
  obtain ⟨t0, ht0⟩ := w4 rr.toNat a1 (by rw [a2]; decide)
  rw [a2] at ht0
  refine ⟨fun v hv => ?_, fun K => ?_⟩
  · rw [List.mem_singleton] at hv; subst hv
    have := w5 rr.toNat j.toNat a1 (by omega)
    rw [am_sl_a (Or.inr (Or.inl a2))] at this
    exact this
  show W p l e R s m args below meth c H locs cells slots Q (F0 m pc ls (.int (Int32.ofInt j) :: am_cv ka vF ad (13, rr) :: st'.map (am_cv ka vF ad)))
  rw [am_cv_r (t := 13) am_isr_a.2.2.1 h0 (by omega)]
  refine va_bald C.1 C.2.1 w3 w1 rr.toNat t0 ((am_ws_at a1).trans (by rw [am_en_i (Or.inr (Or.inl a2))])) ht0 (am_i_in hj hj0 hj1) hd ?_
  rw [am_i_cl hj hj0]
  exact K
theorem go_zaload {p : Program} {l : Launch} {e : Env} {R : Room} {s : State} {m : MethodId} {args : Array Value} {below : List Frame} {meth : Method} {c : Code} {Q : State → Prop} {D : va_G} {B0 : Nat} {ka : Nat → Nat} {vF : Value} {md : Bool} {y n0 c0 s0 : Nat} {ad0 : Nat → Nat} {nf : Nat} {G : am_S → Prop} (hG : G = am_Go p l e R s m args below meth c Q D B0 ka vF md y n0 c0 s0 ad0 nf) (C : am_Cx p s m args c y B0 ka vF) {k : am_S → Option am_R} {r : am_R} (hk : ∀ S, k S = some r → G S) {pc nx : Nat} {L st : List am_V} {σ : am_M} {n : Nat} {rr j : Int} {st' : List am_V} (hst : st = (0, j) :: (14, rr) :: st') (hd : decode (am_by y) pc = .ok (.baload, 1)) (hn : nx = pc + 1) (h : am_ix rr j (k (nx, L, (0, σ rr.toNat j.toNat) :: st', σ, n)) = some r) : G (pc, L, st, σ, n) := by
  subst hn
  obtain ⟨h0, hj0, hj1, h1⟩ := am_ix_some h
  refine go_rep hG C hk (us := [(0, j), (14, rr)]) (vs := [(0, σ rr.toNat j.toNat)]) (rest := st') hst (fun H locs cells slots ls ad cA tys P => ?_) h1
  subst hst
  obtain ⟨q1, ⟨w1, w2, w3, w4, w5, w6, w7⟩, q3, q4, q5, q6, q7⟩ := P
  have hj := am_ok_i (q6 (0, j) (by simp))
  obtain ⟨a1, a2, a3⟩ := am_okc_lt (t := 14) am_isr_a.2.2.2.1 (q6 (14, rr) (by simp)) h0
  obtain ⟨t0, ht0⟩ := w4 rr.toNat a1 (by rw [a2]; decide)
  rw [a2] at ht0
  refine ⟨fun v hv => ?_, fun K => ?_⟩
  · rw [List.mem_singleton] at hv; subst hv
    have := w5 rr.toNat j.toNat a1 (by omega)
    rw [am_sl_a (Or.inr (Or.inr a2))] at this
    exact this
  show W p l e R s m args below meth c H locs cells slots Q (F0 m pc ls (.int (Int32.ofInt j) :: am_cv ka vF ad (14, rr) :: st'.map (am_cv ka vF ad)))
  rw [am_cv_r (t := 14) am_isr_a.2.2.2.1 h0 (by omega)]
  refine va_zald C.1 C.2.1 w3 w1 rr.toNat t0 ((am_ws_at a1).trans (by rw [am_en_i (Or.inr (Or.inr a2))])) ht0 (am_i_in hj hj0 hj1) hd ?_
  rw [am_i_cl hj hj0]
  exact K
