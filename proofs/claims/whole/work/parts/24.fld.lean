theorem am_isr_o {c : Nat} (h : c < 11) : am_isr (100 + c) = true := by
  unfold am_isr
  have a : Nat.ble 100 (100 + c) = true := Nat.ble_eq_true_of_le (by omega)
  rw [a, am_blt_t (by omega)]
  simp
theorem am_okc_lt {n t : Nat} {z : Int} (ht : am_isr t = true) (h : am_ok n (t, z)) (h0 : ¬ z < 0) : z.toNat < n ∧ am_tag z.toNat = t ∧ z < (n : Int) := by
  rcases am_ok_r ht h with e | ⟨a, b, c⟩
  · omega
  · exact ⟨by omega, c, b⟩
theorem am_beq_t {a b : Nat} (h : Nat.beq a b = true) : a = b := Nat.eq_of_beq_eq_true h
theorem am_blt_lt {a b : Nat} (h : Nat.blt a b = true) : a < b := Nat.le_of_ble_eq_true h
theorem am_oki_s {x : Nat × Nat × Nat × Nat} (h : am_oki x = true) : x.1 < 11 ∧ x.2.1 < (am_ft x.1).length ∧ x.2.2.1 = am_at 0 (am_ft x.1) x.2.1 := by
  unfold am_oki at h
  simp only [Bool.and_eq_true] at h
  exact ⟨am_blt_lt h.1.1, am_blt_lt h.1.2, am_beq_t h.2⟩
theorem am_16 : ∀ i, i < 144 → am_tag i ≠ 16 ∧ am_tag i ≠ 0 ∧ am_tag i < 111 := by decide +kernel
theorem go_getfield {p : Program} {l : Launch} {e : Env} {R : Room} {s : State} {m : MethodId} {args : Array Value} {below : List Frame} {meth : Method} {c : Code} {Q : State → Prop} {D : va_G} {B0 : Nat} {ka : Nat → Nat} {vF : Value} {md : Bool} {y n0 c0 s0 : Nat} {ad0 : Nat → Nat} {nf : Nat} {G : am_S → Prop} (hG : G = am_Go p l e R s m args below meth c Q D B0 ka vF md y n0 c0 s0 ad0 nf) (C : am_Cx p s m args c y B0 ka vF) {k : am_S → Option am_R} {r : am_R} (hk : ∀ S, k S = some r → G S) {pc nx : Nat} {L st : List am_V} {σ : am_M} {n : Nat} {j : Nat} {x : Nat × Nat × Nat × Nat} (hd : decode (am_by y) pc = .ok (.getfield j, 3)) (hn : nx = pc + 3) (hx : (am_okf (am_own y) j x && (bif Nat.beq x.1 16 then Nat.blt x.2.1 2 else am_oki x && (bif Nat.beq x.2.2.2 1 then am_at false (am_isf x.1) x.2.1 else true))) = true) (h : am_getf md x st (fun st => k (nx, L, st, σ, n)) σ = some r) : G (pc, L, st, σ, n) := by
  subst hn
  obtain ⟨t, z, st', est, hg⟩ := am_v1_some h
  subst est
  clear h
  have h := hg
  clear hg
  rw [Bool.and_eq_true] at hx
  obtain ⟨hxf, hx⟩ := hx
  have hw := am_fl_word (am_y18 C.2.2.2.2.2.2.2) hxf
  cases h16 : Nat.beq t 16 with
  | true =>
    rw [h16] at h
    obtain ⟨hx16, h1⟩ := am_bif_some h
    clear h
    obtain rfl := am_beq_t h16
    have e16 := am_beq_t hx16
    rw [hx16] at hx
    have hk2 : x.2.1 < 2 := am_blt_lt hx
    unfold am_fwd at hw
    rw [hx16] at hw
    have hSt := C.2.2.2.2.2.1.2.2.2.2.1
    cases hk0 : Nat.beq x.2.1 0 with
    | true =>
      rw [hk0] at h1 hw
      refine go_rep hG C hk (us := [(16, z)]) (vs := [(23, z - 900)]) (rest := st') rfl (fun H locs cells slots ls ad cA tys P => ?_) h1
      obtain ⟨q1, q2, q3, q4, q5, q6, q7⟩ := P
      have hz : 2000 ≤ z ∧ z < 2008 := by
        have := q6 _ List.mem_cons_self
        rcases this with w | w | w | w | w | w | w
        · exact absurd w.1 (show ¬ (16 : Nat) = 0 by decide)
        · exact absurd w.1 (show ¬ (16 : Nat) = 1 by decide)
        · exact w.2
        · exact absurd w (show ¬ (16 : Nat) = 17 by decide)
        · exact absurd w.1 (show ¬ (16 : Nat) = 21 by decide)
        · exact absurd w.1 (show ¬ (16 : Nat) = 23 by decide)
        · exact absurd w.1 (show ¬ am_isr 16 = true by decide)
      refine ⟨fun v hv => ?_, fun K => ?_⟩
      · rw [List.mem_singleton] at hv; subst hv
        exact Or.inr (Or.inr (Or.inr (Or.inr (Or.inr (Or.inl ⟨rfl, show 1100 ≤ z - 900 by omega, show z - 900 < 1108 by omega⟩)))))
      · have e1 : am_cv ka vF ad (16, z) = .ref (ka (2000 + (z.toNat - 2000))) := by
          rw [am_cv_k (Or.inl rfl) (by omega)]; exact congrArg (fun i => Value.ref (ka i)) (by omega)
        have e2 : am_cv ka vF ad (23, z - 900) = .ref (ka (1100 + (z.toNat - 2000))) := by
          rw [am_cv_k (Or.inr (Or.inr rfl)) (by omega)]; exact congrArg (fun i => Value.ref (ka i)) (by omega)
        show W p l e R s m args below meth c H locs cells slots Q (F0 m pc ls (am_cv ka vF ad (16, z) :: st'.map (am_cv ka vF ad)))
        change W p l e R s m args below meth c H locs cells slots Q (F0 m (pc + 3) ls (am_cv ka vF ad (23, z - 900) :: st'.map (am_cv ka vF ad))) at K
        rw [e1]; rw [e2] at K
        exact vk_getf C.1 C.2.1 (hSt.1 (z.toNat - 2000) (by omega)).2.2.1 q1 C.2.2.2.1 (C.2.2.2.2.1 _ hw) (fun _ h9 => h9) hd K
    | false =>
      rw [hk0] at h1 hw
      refine go_rep hG C hk (us := [(16, z)]) (vs := [(0, 0)]) (rest := st') rfl (fun H locs cells slots ls ad cA tys P => ?_) h1
      obtain ⟨q1, q2, q3, q4, q5, q6, q7⟩ := P
      have hz : 2000 ≤ z ∧ z < 2008 := by
        have := q6 _ List.mem_cons_self
        rcases this with w | w | w | w | w | w | w
        · exact absurd w.1 (show ¬ (16 : Nat) = 0 by decide)
        · exact absurd w.1 (show ¬ (16 : Nat) = 1 by decide)
        · exact w.2
        · exact absurd w (show ¬ (16 : Nat) = 17 by decide)
        · exact absurd w.1 (show ¬ (16 : Nat) = 21 by decide)
        · exact absurd w.1 (show ¬ (16 : Nat) = 23 by decide)
        · exact absurd w.1 (show ¬ am_isr 16 = true by decide)
      refine ⟨fun v hv => ?_, fun K => ?_⟩
      · rw [List.mem_singleton] at hv; subst hv
        exact am_ok_0 ⟨by decide, by decide⟩
      · have e1 : am_cv ka vF ad (16, z) = .ref (ka (2000 + (z.toNat - 2000))) := by
          rw [am_cv_k (Or.inl rfl) (by omega)]; exact congrArg (fun i => Value.ref (ka i)) (by omega)
        show W p l e R s m args below meth c H locs cells slots Q (F0 m pc ls (am_cv ka vF ad (16, z) :: st'.map (am_cv ka vF ad)))
        rw [e1]
        exact vk_getf C.1 C.2.1 (hSt.1 (z.toNat - 2000) (by omega)).2.1 q1 C.2.2.2.1 (C.2.2.2.2.1 _ hw) (fun _ h9 => h9) hd K
  | false =>
    rw [h16] at h
    obtain ⟨ht, h1⟩ := am_bif_some h
    clear h
    obtain rfl := am_beq_t ht
    obtain ⟨hz0, h⟩ := am_if_some h1
    clear h1
    have hh : (bif md && Nat.beq x.2.2.2 1 then k (pc + 3, L, (x.2.2.1, am_fin z.toNat x.2.1) :: st', σ, n) else k (pc + 3, L, (x.2.2.1, σ z.toNat x.2.1) :: st', σ, n)) = some r := h
    rcases Bool.eq_false_or_eq_true (Nat.beq x.1 16) with hx16 | hx16
    · have no : ∀ H locs cells slots ls ad cA tys, am_Pt s D B0 ka vF md y n0 c0 s0 ad0 ls L ((100 + x.1, z) :: st') σ n H locs cells slots ad cA tys → False := by
        intro H locs cells slots ls ad cA tys P
        have := P.2.2.2.2.2.1 _ List.mem_cons_self
        rw [am_beq_t hx16] at this
        unfold am_ok at this
        dsimp only at this
        rcases this with w | w | w | w | w | w | w
        · exact absurd w.1 (by decide)
        · exact absurd w.1 (by decide)
        · exact absurd w.1 (by decide)
        · exact absurd w (by decide)
        · exact absurd w.1 (by decide)
        · exact absurd w.1 (by decide)
        · exact absurd w.1 (by decide)
      by_cases hb : (md && Nat.beq x.2.2.2 1) = true
      · rw [hb] at hh
        exact go_rep hG C hk (us := [(100 + x.1, z)]) (vs := [(x.2.2.1, am_fin z.toNat x.2.1)]) (rest := st') rfl (fun H locs cells slots ls ad cA tys P => (no H locs cells slots ls ad cA tys P).elim) hh
      · rw [Bool.not_eq_true] at hb
        rw [hb] at hh
        exact go_rep hG C hk (us := [(100 + x.1, z)]) (vs := [(x.2.2.1, σ z.toNat x.2.1)]) (rest := st') rfl (fun H locs cells slots ls ad cA tys P => (no H locs cells slots ls ad cA tys P).elim) hh
    rw [hx16] at hx
    have hx2 : am_oki x = true ∧ (bif Nat.beq x.2.2.2 1 then am_at false (am_isf x.1) x.2.1 else true) = true := by rwa [← Bool.and_eq_true]
    obtain ⟨c1, c2, c3⟩ := am_oki_s hx2.1
    unfold am_fwd at hw
    rw [hx16] at hw
    have key : ∀ H locs cells slots ls ad cA tys, am_Pt s D B0 ka vF md y n0 c0 s0 ad0 ls L ((100 + x.1, z) :: st') σ n H locs cells slots ad cA tys → am_ok n (x.2.2.1, σ z.toNat x.2.1) ∧ (W p l e R s m args below meth c H locs cells slots Q (F0 m (pc + 3) ls (am_cv ka vF ad (x.2.2.1, σ z.toNat x.2.1) :: st'.map (am_cv ka vF ad))) → W p l e R s m args below meth c H locs cells slots Q (F0 m pc ls (am_cv ka vF ad (100 + x.1, z) :: st'.map (am_cv ka vF ad)))) ∧ (md = true → Nat.beq x.2.2.2 1 = true → σ z.toNat x.2.1 = am_fin z.toNat x.2.1) := by
      intro H locs cells slots ls ad cA tys P
      obtain ⟨q1, ⟨w1, w2, w3, w4, w5, w6, w7⟩, q3, q4, q5, q6, q7⟩ := P
      obtain ⟨a1, a2, a3⟩ := am_okc_lt (am_isr_o c1) (q6 _ List.mem_cons_self) hz0
      have hlen : am_len z.toNat = (am_ft x.1).length := by
        have := (am_len_ft z.toNat (by omega) (by omega)).1
        rw [a2, Nat.add_sub_cancel_left] at this
        exact this
      have hv := w5 z.toNat x.2.1 a1 (by rw [hlen]; exact c2)
      rw [am_sl_o a2, ← c3] at hv
      refine ⟨hv, fun K => ?_, fun m1 m2 => ?_⟩
      · rw [am_cv_r (am_isr_o c1) hz0 (by omega)]
        refine va_get (C := am_cn x.1) (T := am_T x.1) (N := (am_ft x.1).length) (ref := (am_T x.1 x.2.1).1) C.1 C.2.1 C.2.2.2.2.1 (am_uws x.1 c1) C.2.2.2.1 w3 w1 z.toNat ((am_ws_at a1).trans (by rw [am_en_o a2])) (am_cl_at x.1 c1) x.2.1 c2 (C.2.2.2.2.1 _ hw) (fun _ h9 => h9) ?_ hd K
        rw [List.getElem?_map, List.getElem?_range (by rw [hlen]; exact c2)]
        show some (am_cv ka vF ad (am_sl z.toNat x.2.1, σ z.toNat x.2.1)) = _
        rw [am_sl_o a2, ← c3]
      · rw [m2] at hx2
        refine w6 m1 z.toNat x.2.1 a1 ?_
        unfold am_isfn
        rw [a2, am_beq_n (by omega), Nat.add_sub_cancel_left]
        have : Nat.ble 100 (100 + x.1) = true := Nat.ble_eq_true_of_le (by omega)
        rw [this]
        exact hx2.2
    by_cases hb : (md && Nat.beq x.2.2.2 1) = true
    · rw [hb] at hh
      have hb2 := hb
      rw [Bool.and_eq_true] at hb2
      refine go_rep hG C hk (us := [(100 + x.1, z)]) (vs := [(x.2.2.1, am_fin z.toNat x.2.1)]) (rest := st') rfl (fun H locs cells slots ls ad cA tys P => ?_) hh
      obtain ⟨k1, k2, k3⟩ := key H locs cells slots ls ad cA tys P
      rw [k3 hb2.1 hb2.2] at k1 k2
      exact ⟨fun v hv => by rw [List.mem_singleton] at hv; subst hv; exact k1, k2⟩
    · rw [Bool.not_eq_true] at hb
      rw [hb] at hh
      refine go_rep hG C hk (us := [(100 + x.1, z)]) (vs := [(x.2.2.1, σ z.toNat x.2.1)]) (rest := st') rfl (fun H locs cells slots ls ad cA tys P => ?_) hh
      obtain ⟨k1, k2, k3⟩ := key H locs cells slots ls ad cA tys P
      exact ⟨fun v hv => by rw [List.mem_singleton] at hv; subst hv; exact k1, k2⟩
