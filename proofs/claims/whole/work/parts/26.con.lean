theorem am_ok_21 {n : Nat} {z : Int} (h : am_ok n (21, z)) : 1000 ≤ z ∧ z < 1007 := by
  unfold am_ok at h
  dsimp only at h
  rcases h with w | w | w | w | w | w | w
  · exact absurd w.1 (by decide)
  · exact absurd w.1 (by decide)
  · exact absurd w.1 (by decide)
  · exact absurd w (by decide)
  · exact w.2
  · exact absurd w.1 (by decide)
  · exact absurd w.1 (by decide)
theorem am_ok_23 {n : Nat} {z : Int} (h : am_ok n (23, z)) : 1100 ≤ z ∧ z < 1108 := by
  unfold am_ok at h
  dsimp only at h
  rcases h with w | w | w | w | w | w | w
  · exact absurd w.1 (by decide)
  · exact absurd w.1 (by decide)
  · exact absurd w.1 (by decide)
  · exact absurd w (by decide)
  · exact absurd w.1 (by decide)
  · exact w.2
  · exact absurd w.1 (by decide)
theorem am_cx_some {rr j : Int} {x : Option am_R} {r : am_R} (h : am_cx rr j x = some r) : 0 ≤ j ∧ j < am_len rr.toNat ∧ x = some r := by
  obtain ⟨⟨a, b⟩, c⟩ := am_if_some h
  exact ⟨a, b, c⟩
theorem am_slen_ok : ∀ i, i < 8 → am_slen.getD i 0 = am_len (1100 + i) ∧ am_len (1100 + i) ≤ 6 := by decide +kernel
theorem am_sbyt_ok : ∀ i, i < 8 → ∀ j, j < 6 → (am_sbyt.getD i []).getD j 0 = Int32.ofInt (am_kc (1100 + i) j) := by decide +kernel
theorem am_kc_r : ∀ i, i < 8 → ∀ j, j < 6 → -2147483648 ≤ am_kc (1100 + i) j ∧ am_kc (1100 + i) j < 2147483648 := by decide +kernel
theorem am_kl_r : ∀ i, i < 7 → am_len (1000 + i) ≤ 12 ∧ ∀ j, j < 12 → -2147483648 ≤ am_kc (1000 + i) j ∧ am_kc (1000 + i) j < 2147483648 := by decide +kernel
theorem go_ialoadk {p : Program} {l : Launch} {e : Env} {R : Room} {s : State} {m : MethodId} {args : Array Value} {below : List Frame} {meth : Method} {c : Code} {Q : State → Prop} {D : va_G} {B0 : Nat} {ka : Nat → Nat} {vF : Value} {md : Bool} {y n0 c0 s0 : Nat} {ad0 : Nat → Nat} {nf : Nat} {G : am_S → Prop} (hG : G = am_Go p l e R s m args below meth c Q D B0 ka vF md y n0 c0 s0 ad0 nf) (C : am_Cx p s m args c y B0 ka vF) {k : am_S → Option am_R} {r : am_R} (hk : ∀ S, k S = some r → G S) {pc nx : Nat} {L st : List am_V} {σ : am_M} {n : Nat} {rr j : Int} {st' : List am_V} (hst : st = (0, j) :: (21, rr) :: st') (hd : decode (am_by y) pc = .ok (.iaload, 1)) (hn : nx = pc + 1) (h : am_cx rr j (k (nx, L, (0, am_kc rr.toNat j.toNat) :: st', σ, n)) = some r) : G (pc, L, st, σ, n) := by
  subst hn
  obtain ⟨hj0, hj1, h1⟩ := am_cx_some h
  refine go_rep hG C hk (us := [(0, j), (21, rr)]) (vs := [(0, am_kc rr.toNat j.toNat)]) (rest := st') hst (fun H locs cells slots ls ad cA tys P => ?_) h1
  subst hst
  obtain ⟨q1, q2, q3, q4, q5, q6, q7⟩ := P
  have hj := am_ok_i (q6 (0, j) (by simp))
  have hr := am_ok_21 (q6 (21, rr) (by simp))
  obtain ⟨i, hi, rfl⟩ : ∃ i : Nat, i < 7 ∧ rr = ((1000 + i : Nat) : Int) := ⟨rr.toNat - 1000, by omega, by omega⟩
  rw [Int.toNat_natCast] at hj1 ⊢
  obtain ⟨l1, l2⟩ := am_kl_r i hi
  refine ⟨fun v hv => ?_, fun K => ?_⟩
  · rw [List.mem_singleton] at hv; subst hv
    exact am_ok_0 (l2 j.toNat (by omega))
  · show W p l e R s m args below meth c H locs cells slots Q (F0 m pc ls (.int (Int32.ofInt j) :: am_cv ka vF ad (21, ((1000 + i : Nat) : Int)) :: st'.map (am_cv ka vF ad)))
    rw [am_cv_k (Or.inr (Or.inl rfl)) (by omega), Int.toNat_natCast]
    exact va_ti C.1 C.2.1 (C.2.2.2.2.2.1.1 i hi).2 q1 (am_i_in hj hj0 hj1) (by rw [am_i_cl hj hj0]; rfl) hd K
theorem go_baloadk {p : Program} {l : Launch} {e : Env} {R : Room} {s : State} {m : MethodId} {args : Array Value} {below : List Frame} {meth : Method} {c : Code} {Q : State → Prop} {D : va_G} {B0 : Nat} {ka : Nat → Nat} {vF : Value} {md : Bool} {y n0 c0 s0 : Nat} {ad0 : Nat → Nat} {nf : Nat} {G : am_S → Prop} (hG : G = am_Go p l e R s m args below meth c Q D B0 ka vF md y n0 c0 s0 ad0 nf) (C : am_Cx p s m args c y B0 ka vF) {k : am_S → Option am_R} {r : am_R} (hk : ∀ S, k S = some r → G S) {pc nx : Nat} {L st : List am_V} {σ : am_M} {n : Nat} {rr j : Int} {st' : List am_V} (hst : st = (0, j) :: (23, rr) :: st') (hd : decode (am_by y) pc = .ok (.baload, 1)) (hn : nx = pc + 1) (h : am_cx rr j (k (nx, L, (0, am_kc rr.toNat j.toNat) :: st', σ, n)) = some r) : G (pc, L, st, σ, n) := by
  subst hn
  obtain ⟨hj0, hj1, h1⟩ := am_cx_some h
  refine go_rep hG C hk (us := [(0, j), (23, rr)]) (vs := [(0, am_kc rr.toNat j.toNat)]) (rest := st') hst (fun H locs cells slots ls ad cA tys P => ?_) h1
  subst hst
  obtain ⟨q1, q2, q3, q4, q5, q6, q7⟩ := P
  have hj := am_ok_i (q6 (0, j) (by simp))
  have hr := am_ok_23 (q6 (23, rr) (by simp))
  obtain ⟨i, hi, rfl⟩ : ∃ i : Nat, i < 8 ∧ rr = ((1100 + i : Nat) : Int) := ⟨rr.toNat - 1100, by omega, by omega⟩
  rw [Int.toNat_natCast] at hj1 ⊢
  obtain ⟨l0, l1⟩ := am_slen_ok i hi
  refine ⟨fun v hv => ?_, fun K => ?_⟩
  · rw [List.mem_singleton] at hv; subst hv
    exact am_ok_0 (am_kc_r i hi j.toNat (by omega))
  · show W p l e R s m args below meth c H locs cells slots Q (F0 m pc ls (.int (Int32.ofInt j) :: am_cv ka vF ad (23, ((1100 + i : Nat) : Int)) :: st'.map (am_cv ka vF ad)))
    rw [am_cv_k (Or.inr (Or.inr rfl)) (by omega), Int.toNat_natCast]
    refine va_tb C.1 C.2.1 (C.2.2.2.2.2.1.2.2.2.2.1.1 i hi).2.2.2 q1 (by rw [l0]; exact am_i_in hj hj0 hj1) ?_ hd K
    rw [am_i_cl hj hj0]
    exact congrArg Value.int (am_sbyt_ok i hi j.toNat (by omega))
theorem am_len15 : ∀ i, i < 144 → am_tag i = 15 → am_len i = 8 := by decide +kernel
theorem go_aaload {p : Program} {l : Launch} {e : Env} {R : Room} {s : State} {m : MethodId} {args : Array Value} {below : List Frame} {meth : Method} {c : Code} {Q : State → Prop} {D : va_G} {B0 : Nat} {ka : Nat → Nat} {vF : Value} {md : Bool} {y n0 c0 s0 : Nat} {ad0 : Nat → Nat} {nf : Nat} {G : am_S → Prop} (hG : G = am_Go p l e R s m args below meth c Q D B0 ka vF md y n0 c0 s0 ad0 nf) (C : am_Cx p s m args c y B0 ka vF) {k : am_S → Option am_R} {r : am_R} (hk : ∀ S, k S = some r → G S) {pc nx : Nat} {L st : List am_V} {σ : am_M} {n : Nat} {rr j : Int} {st' : List am_V} (hst : st = (0, j) :: (15, rr) :: st') (hd : decode (am_by y) pc = .ok (.aaload, 1)) (hn : nx = pc + 1) (h : am_ix rr j (bif md then k (nx, L, (106, am_fin rr.toNat j.toNat) :: st', σ, n) else k (nx, L, (106, σ rr.toNat j.toNat) :: st', σ, n)) = some r) : G (pc, L, st, σ, n) := by
  subst hn
  obtain ⟨h0, hj0, hj1, h1⟩ := am_ix_some h
  have key : ∀ H locs cells slots ls ad cA tys, am_Pt s D B0 ka vF md y n0 c0 s0 ad0 ls L st σ n H locs cells slots ad cA tys → am_ok n (106, σ rr.toNat j.toNat) ∧ (W p l e R s m args below meth c H locs cells slots Q (F0 m (pc + 1) ls (am_cv ka vF ad (106, σ rr.toNat j.toNat) :: st'.map (am_cv ka vF ad))) → W p l e R s m args below meth c H locs cells slots Q (F0 m pc ls (am_cv ka vF ad (0, j) :: am_cv ka vF ad (15, rr) :: st'.map (am_cv ka vF ad)))) ∧ (md = true → σ rr.toNat j.toNat = am_fin rr.toNat j.toNat) := by
    intro H locs cells slots ls ad cA tys P
    subst hst
    obtain ⟨q1, ⟨w1, w2, w3, w4, w5, w6, w7⟩, q3, q4, q5, q6, q7⟩ := P
    have hj := am_ok_i (q6 (0, j) (by simp))
    obtain ⟨a1, a2, a3⟩ := am_okc_lt (t := 15) am_isr_a.2.2.2.2 (q6 (15, rr) (by simp)) h0
    obtain ⟨t0, ht0⟩ := w4 rr.toNat a1 (by rw [a2]; decide)
    rw [a2] at ht0
    have hv := w5 rr.toNat j.toNat a1 (by omega)
    rw [am_sl_15 a2] at hv
    have h8 := am_len15 rr.toNat (by omega) a2
    refine ⟨hv, fun K => ?_, fun m1 => w6 m1 _ _ a1 (by unfold am_isfn; rw [a2]; exact am_blt_t (by omega))⟩
    show W p l e R s m args below meth c H locs cells slots Q (F0 m pc ls (.int (Int32.ofInt j) :: am_cv ka vF ad (15, rr) :: st'.map (am_cv ka vF ad)))
    rw [am_cv_r (t := 15) am_isr_a.2.2.2.2 h0 (by omega)]
    refine va_aldq (C := "PlanMemo$Shelf") C.1 C.2.1 w3 w1 rr.toNat t0 ((am_ws_at a1).trans (by rw [am_en_q a2])) ht0 (am_i_in hj hj0 hj1) hd ?_
    rw [am_i_cl hj hj0]
    have e : va_rf (if σ rr.toNat j.toNat < 0 ∨ am_len rr.toNat ≤ j.toNat then none else some (ad (σ rr.toNat j.toNat).toNat)) = am_cv ka vF ad (106, σ rr.toNat j.toNat) := by
      rcases am_ok_r (am_isr_o (c := 6) (by decide)) hv with z | z
      · rw [z, am_cv_null (am_isr_o (c := 6) (by decide))]; rfl
      · rw [if_neg (by omega), am_cv_r (am_isr_o (c := 6) (by decide)) (by omega) (by omega)]; rfl
    rw [e]
    exact K
  cases hm : md with
  | true =>
    rw [hm] at h1
    refine go_rep hG C hk (us := [(0, j), (15, rr)]) (vs := [(106, am_fin rr.toNat j.toNat)]) (rest := st') hst (fun H locs cells slots ls ad cA tys P => ?_) h1
    obtain ⟨k1, k2, k3⟩ := key H locs cells slots ls ad cA tys P
    rw [k3 hm] at k1 k2
    exact ⟨fun v hv => by rw [List.mem_singleton] at hv; subst hv; exact k1, k2⟩
  | false =>
    rw [hm] at h1
    refine go_rep hG C hk (us := [(0, j), (15, rr)]) (vs := [(106, σ rr.toNat j.toNat)]) (rest := st') hst (fun H locs cells slots ls ad cA tys P => ?_) h1
    obtain ⟨k1, k2, k3⟩ := key H locs cells slots ls ad cA tys P
    exact ⟨fun v hv => by rw [List.mem_singleton] at hv; subst hv; exact k1, k2⟩
