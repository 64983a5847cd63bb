theorem am_isr_100 {n t : Nat} {z : Int} (h : am_ok n (t, z)) (ht : 100 ≤ t) (hz : ¬ z < 0) : am_isr t = true ∧ z.toNat < n ∧ z < (n : Int) := by
  unfold am_ok at h
  dsimp only at h
  rcases h with w | w | w | w | w | w | w
  · omega
  · omega
  · omega
  · omega
  · omega
  · omega
  · rcases w.2 with q | q
    · omega
    · exact ⟨w.1, by omega, q.2.1⟩
theorem go_objinit {p : Program} {l : Launch} {e : Env} {R : Room} {s : State} {m : MethodId} {args : Array Value} {below : List Frame} {meth : Method} {c : Code} {Q : State → Prop} {D : va_G} {B0 : Nat} {ka : Nat → Nat} {vF : Value} {md : Bool} {y n0 c0 s0 : Nat} {ad0 : Nat → Nat} {nf : Nat} {G : am_S → Prop} (hG : G = am_Go p l e R s m args below meth c Q D B0 ka vF md y n0 c0 s0 ad0 nf) (C : am_Cx p s m args c y B0 ka vF) {k : am_S → Option am_R} {r : am_R} (hk : ∀ S, k S = some r → G S) {pc nx : Nat} {L st : List am_V} {σ : am_M} {n : Nat} {d j : Nat} (hR : am_Rm R d c0 s0 n0 nf) (hd : decode (am_by y) pc = .ok (.invokespecial j, 3)) (hn : nx = pc + 3) (hx : am_okc (am_own y) j 0 5 = true) (h : (am_v1 st fun t r st => bif Nat.ble 100 t && Nat.ble (am_cat st) 8 then am_if (¬ r < 0) (k (nx, L, st, σ, n)) else none) = some r) : G (pc, L, st, σ, n) := by
  subst hn
  obtain ⟨t, z, st', est, h1⟩ := am_v1_some h
  obtain ⟨hb, h2⟩ := am_bif_some h1
  obtain ⟨hz, h3⟩ := am_if_some h2
  rw [Bool.and_eq_true] at hb
  subst est
  obtain ⟨f, hf, f1, f2, f3⟩ := am_cl_row (am_y18 C.2.2.2.2.2.2.2) hx
  have hws := am_cl_word (am_y18 C.2.2.2.2.2.2.2) hf
  unfold am_cws at hws
  rw [f1, f3] at hws
  have u1 := hws (f.2.2.2.1, Cond.methodLink (am_cn (am_own y)) j objectInit) List.mem_cons_self
  have u2 := hws (f.2.2.2.2.1, Cond.instanceMethod objectInit) (List.mem_cons_of_mem _ List.mem_cons_self)
  refine go_rep hG C hk (us := [(t, z)]) (vs := []) (rest := st') rfl (fun H locs cells slots ls ad cA tys P => ⟨fun v hv => absurd hv List.not_mem_nil, fun K => ?_⟩) h3
  obtain ⟨q1, hWd, q3, q4, q5, q6, q7⟩ := P
  obtain ⟨a1, a2, a3⟩ := am_isr_100 (q6 _ List.mem_cons_self) (Nat.le_of_ble_eq_true hb.1) hz
  have hcv := am_cv_r (ka := ka) (vF := vF) (ad := ad) a1 hz (by have := hWd.2.2.2.2.2.2; omega)
  obtain ⟨r1, r2, r3, r4⟩ := hR
  show W p l e R s m args below meth c H locs cells slots Q (F0 m pc ls (am_cv ka vF ad (t, z) :: st'.map (am_cv ka vF ad)))
  rw [hcv]
  have hc8 : am_cat st' ≤ 8 := Nat.le_of_ble_eq_true hb.2
  exact W.objInit (g := F0 m pc ls (.ref (ad z.toNat) :: st'.map (am_cv ka vF ad))) (rest := st'.map (am_cv ka vF ad)) C.1 C.2.1 C.2.2.2.1 (C.2.2.2.2.1 _ u1) (C.2.2.2.2.1 _ u2) (C.2.2.2.2.1 _ am_oi_code) rfl (by rw [C.2.2.1]; exact q3.1) rfl hd (by omega) (by rw [am_cat_sum (am_hF C)]; show 2 * 0 + am_cat st' + 12 ≤ R.locals; omega) K
