theorem am_nl_word {own j c : Nat} (hown : own < 18) (h : (am_nlk own).any (fun f => Nat.beq f.1 j && Nat.beq f.2.1 c) = true) : Cond.classLink (am_cn own) j (am_cn c) ∈ am_wa := by
  obtain ⟨a, ha, h⟩ := am_any_some h
  rw [Bool.and_eq_true] at h
  rw [← am_beq_t h.1, ← am_beq_t h.2]
  exact am_nll_ok own hown (a.2.2, .classLink (am_cn own) a.1 (am_cn a.2.1)) (List.mem_map.mpr ⟨a, ha, rfl⟩)
theorem am_is_word {c : Nat} (h : c < 11) : Cond.instantiable (am_cn c) (am_ft c).length ∈ am_wa := am_rows_in am_is_ am_is__g (am_mpos c, .instantiable (am_cn c) (am_ft c).length) (List.mem_map.mpr ⟨c, List.mem_range.mpr h, rfl⟩)
theorem am_df_o {i c j : Nat} (h : am_tag i = 100 + c) : am_df i j = bif Nat.blt (am_at 0 (am_ft c) j) 10 then 0 else -1 := by
  unfold am_df
  rw [h, am_blt_n (by omega), Nat.add_sub_cancel_left]
  rfl
theorem am_dfv {ka : Nat → Nat} {vF : Value} {ad : Nat → Nat} {c k : Nat} (hc : c < 11) (hk : k < (am_ft c).length) : defaultValue (am_ty c k) = am_cv ka vF ad (am_at 0 (am_ft c) k, bif Nat.blt (am_at 0 (am_ft c) k) 10 then 0 else -1) := by
  have h := am_tychk_ok c hc k (by have := am_ft_len c hc; omega) hk
  unfold am_tychk at h
  have hi : ∀ t, am_isr t = true → Nat.blt t 10 = false := by
    intro t ht
    unfold am_isr at ht
    rw [Bool.or_eq_true, Bool.and_eq_true, Bool.and_eq_true] at ht
    refine am_blt_n ?_
    rcases ht with w | w
    · have := Nat.le_of_ble_eq_true w.1; omega
    · have := Nat.le_of_ble_eq_true w.1; omega
  cases ht : am_ty c k <;> rw [ht] at h
  case int => rw [Bool.and_eq_true] at h; rw [am_beq_t h.2]; rfl
  case long => rw [Bool.and_eq_true] at h; rw [am_beq_t h.2]; rfl
  case boolean => rw [Bool.and_eq_true] at h; rw [am_beq_t h.2]; rfl
  case object q => rw [Bool.and_eq_true] at h; rw [hi _ h.2]; exact (am_cv_null h.2).symm
  case array q => rw [Bool.and_eq_true] at h; rw [hi _ h.2]; exact (am_cv_null h.2).symm
  all_goals cases h
theorem go_new {p : Program} {l : Launch} {e : Env} {R : Room} {s : State} {m : MethodId} {args : Array Value} {below : List Frame} {meth : Method} {c : Code} {Q : State → Prop} {D : va_G} {B0 : Nat} {ka : Nat → Nat} {vF : Value} {md : Bool} {y n0 c0 s0 : Nat} {ad0 : Nat → Nat} {nf : Nat} {G : am_S → Prop} (hG : G = am_Go p l e R s m args below meth c Q D B0 ka vF md y n0 c0 s0 ad0 nf) (C : am_Cx p s m args c y B0 ka vF) {k : am_S → Option am_R} {r : am_R} (hk : ∀ S, k S = some r → G S) {pc nx : Nat} {L st : List am_V} {σ : am_M} {n : Nat} {d j : Nat} {x : Nat × Nat × Nat × Nat} (hR : am_Rm R d c0 s0 n0 nf) (hd : decode (am_by y) pc = .ok (.new j, 3)) (hn : nx = pc + 3) (hx : ((am_nlk (am_own y)).any (fun f => Nat.beq f.1 j && Nat.beq f.2.1 x.1) && Nat.blt x.1 11) = true) (h : (bif !md && Nat.beq (am_tag n) (100 + x.1) then am_m (am_new σ n) fun σ => k (nx, L, (100 + x.1, (n : Int)) :: st, σ, n + 1) else none) = some r) : G (pc, L, st, σ, n) := by
  subst hn
  obtain ⟨hb, h1⟩ := am_bif_some h
  rw [Bool.and_eq_true] at hb hx
  have htg := am_beq_t hb.2
  have c1 : x.1 < 11 := am_blt_lt hx.2
  have hmd : md = false := by simpa using hb.1
  have hn : n < 144 := am_tag_lt (by rw [htg]; omega)
  have hlen : am_len n = (am_ft x.1).length := by
    have := (am_len_ft n hn (by omega)).1
    rw [htg, Nat.add_sub_cancel_left] at this
    exact this
  refine go_alloc hG C hk hR htg (am_isr_o c1) (us := []) (rest := st) rfl (fun hm => by rw [hmd] at hm; cases hm) (fun H locs cells slots ls ad cA tys P hc hs K => ?_) h1
  obtain ⟨q1, ⟨w1, w2, w3, w4, w5, w6, w7⟩, q3⟩ := P
  refine va_new (C := am_cn x.1) (T := am_T x.1) (N := (am_ft x.1).length) (fs := (List.range (am_len n)).map fun j => am_cv ka vF ad (am_sl n j, am_df n j)) C.1 C.2.1 C.2.2.2.2.1 (am_uws x.1 c1) (am_ty x.1) (am_ty_ok x.1 c1) C.2.2.2.1 (C.2.2.2.2.1 _ (am_nl_word (am_y18 C.2.2.2.2.2.2.2) hx.1)) (C.2.2.2.2.1 _ (am_is_word c1)) (C.2.2.2.2.1 _ (am_ini_word (by omega))) w3 w1 w2 q1 (fun q hq => Nat.le_trans C.2.2.2.2.2.2.1 hq) (am_cl_at x.1 c1) (fun j hj => ?_) hc (by rw [← hlen]; exact hs) hd (fun q H1 o2 o3 o4 => ?_)
  · rw [am_dfv (ka := ka) (vF := vF) (ad := ad) c1 hj]
    unfold vp_V
    rw [List.getD_eq_getElem?_getD, List.getElem?_map, List.getElem?_range (by rw [hlen]; exact hj)]
    show _ = am_cv ka vF ad (am_sl n j, am_df n j)
    rw [am_sl_o htg, am_df_o htg]
  · have eE : am_en ka vF (am_ad ad n q) (am_ad cA n 0) (am_new σ n) n = .inr (x.1, (List.range (am_len n)).map fun j => am_cv ka vF ad (am_sl n j, am_df n j)) := by
      rw [am_en_o htg]
      refine congrArg (fun f => (Sum.inr (x.1, f) : va_E)) (List.map_congr_left fun j hj => ?_)
      rw [am_new_n]
      refine am_cv_ext (n := n) (fun i hi => am_ad_lt hi) ?_
      have hj' := List.mem_range.mp hj
      have := am_ft_len x.1 c1
      rcases am_df_ok n hn j (by omega) with ⟨a, b⟩ | ⟨a, b⟩ | ⟨a, b⟩
      · rw [a, b]; exact am_ok_0 ⟨by decide, by decide⟩
      · rw [a, b]; exact am_ok_1 ⟨by decide, by decide⟩
      · rw [b]; exact am_ok_ref a (Or.inl rfl)
    have hK := K q 0 tys H1 w3 (fun i e he => he) (fun h => absurd h (by omega)) (by rw [eE]; exact o2) (by rw [eE]; exact o3) o4
    rw [hlen] at hK
    exact hK
theorem go_anewarray {p : Program} {l : Launch} {e : Env} {R : Room} {s : State} {m : MethodId} {args : Array Value} {below : List Frame} {meth : Method} {c : Code} {Q : State → Prop} {D : va_G} {B0 : Nat} {ka : Nat → Nat} {vF : Value} {md : Bool} {y n0 c0 s0 : Nat} {ad0 : Nat → Nat} {nf : Nat} {G : am_S → Prop} (hG : G = am_Go p l e R s m args below meth c Q D B0 ka vF md y n0 c0 s0 ad0 nf) (C : am_Cx p s m args c y B0 ka vF) {k : am_S → Option am_R} {r : am_R} (hk : ∀ S, k S = some r → G S) {pc nx : Nat} {L st : List am_V} {σ : am_M} {n : Nat} {d j : Nat} (hR : am_Rm R d c0 s0 n0 nf) (hd : decode (am_by y) pc = .ok (.anewarray j, 3)) (hn : nx = pc + 3) (hx : (am_nlk (am_own y)).any (fun f => Nat.beq f.1 j && Nat.beq f.2.1 6) = true) (h : (am_i1 st fun j st => bif !md && Nat.beq (am_tag n) 15 then am_if (j = am_len n) (am_m (am_new σ n) fun σ => k (nx, L, (15, (n : Int)) :: st, σ, n + 1)) else none) = some r) : G (pc, L, st, σ, n) := by
  subst hn
  obtain ⟨j', st', est, h1⟩ := am_i1_some h
  obtain ⟨hb, h2⟩ := am_bif_some h1
  obtain ⟨hj, h3⟩ := am_if_some h2
  rw [Bool.and_eq_true] at hb
  have htg := am_beq_t hb.2
  have hmd : md = false := by simpa using hb.1
  have hn : n < 144 := am_tag_lt (by rw [htg]; decide)
  refine go_alloc hG C hk hR htg (by decide) (us := [(0, j')]) (rest := st') est (fun hm => by rw [hmd] at hm; cases hm) (fun H locs cells slots ls ad cA tys P hc hs K => ?_) h3
  obtain ⟨q1, ⟨w1, w2, w3, w4, w5, w6, w7⟩, q3⟩ := P
  have hr := am_rng n hn
  refine va_newq (C := "PlanMemo$Shelf") (n := Int32.ofInt j') (N' := am_len n) C.1 C.2.1 C.2.2.2.1 (C.2.2.2.2.1 _ (am_nl_word (am_y18 C.2.2.2.2.2.2.2) hx)) C.2.2.2.2.2.1.2.2.2.2.2.2.2 w3 w1 w2 q1 (fun q hq => Nat.le_trans C.2.2.2.2.2.2.1 hq) ?_ ?_ ?_ hc hs hd (fun q cN H1 o1 o2 o3 o4 => ?_)
  · rw [hj]; exact am_not_lt hr (by omega)
  · rw [hj, am_i_cl hr (by omega), Int.toNat_natCast]
  · have := am_len_r n hn
    omega
  · refine K q cN _ H1 o1 (fun i e he => ?_) (fun _ => ⟨tys.length, ?_⟩) ?_ ?_ o4
    · have hl := (List.getElem?_eq_some_iff.mp he).1
      rw [List.getElem?_append_left hl]; exact he
    · rw [List.getElem?_append_right (Nat.le_refl _), Nat.sub_self, htg]; rfl
    all_goals
      have eE : am_en ka vF (am_ad ad n q) (am_ad cA n cN) (am_new σ n) n = .inl (cN, am_len n, Sum.inr (Sum.inr (Sum.inr (Sum.inr fun _ => none)))) := by
        rw [am_en_q htg, am_ad_n]
        simp only [am_new_n, am_df_arr n hn (by rw [htg]; decide), htg]
        rfl
      rw [eE]
      assumption
theorem go_aastore {p : Program} {l : Launch} {e : Env} {R : Room} {s : State} {m : MethodId} {args : Array Value} {below : List Frame} {meth : Method} {c : Code} {Q : State → Prop} {D : va_G} {B0 : Nat} {ka : Nat → Nat} {vF : Value} {md : Bool} {y n0 c0 s0 : Nat} {ad0 : Nat → Nat} {nf : Nat} {G : am_S → Prop} (hG : G = am_Go p l e R s m args below meth c Q D B0 ka vF md y n0 c0 s0 ad0 nf) (C : am_Cx p s m args c y B0 ka vF) {k : am_S → Option am_R} {r : am_R} (hk : ∀ S, k S = some r → G S) {pc nx : Nat} {L st : List am_V} {σ : am_M} {n : Nat} {rr j v : Int} {st' : List am_V} (hst : st = (106, v) :: (0, j) :: (15, rr) :: st') (hmd : md = false) (hv0 : ¬ v < 0) (hd : decode (am_by y) pc = .ok (.aastore, 1)) (hn : nx = pc + 1) (h : am_ix rr j (am_m (am_wr σ rr.toNat j.toNat v) fun σ => k (nx, L, st', σ, n)) = some r) : G (pc, L, st, σ, n) := by
  subst hn
  obtain ⟨h0, hj0, hj1, h1⟩ := am_ix_some h
  refine go_mem hG C hk (us := [(106, v), (0, j), (15, rr)]) (rest := st') hst (fun H locs cells slots ls ad cA tys P => ?_) h1
  subst hst
  obtain ⟨q1, ⟨w1, w2, w3, w4, w5, w6, w7⟩, q3, q4, q5, q6, q7⟩ := P
  have hv := q6 (106, v) (by simp)
  have hj := am_ok_i (q6 (0, j) (by simp))
  obtain ⟨a1, a2, a3⟩ := am_okc_lt (t := 15) am_isr_a.2.2.2.2 (q6 (15, rr) (by simp)) h0
  obtain ⟨b1, b2, b3⟩ := am_okc_lt (am_isr_o (c := 6) (by decide)) hv hv0
  obtain ⟨t0, ht0⟩ := w4 rr.toNat a1 (by rw [a2]; decide)
  rw [a2] at ht0
  refine ⟨am_wr_okM w5 (by rw [am_sl_15 a2]; exact hv), (fun hm => by rw [hmd] at hm; cases hm), fun K => ?_⟩
  have hset : ∀ E, am_en ka vF ad cA (am_wr σ rr.toNat j.toNat v) rr.toNat = E → (am_ws ka vF ad cA σ n).set rr.toNat (ad rr.toNat, E) = am_ws ka vF ad cA (am_wr σ rr.toNat j.toNat v) n := fun E hE => am_ws_set a1 hE (fun i' j' hi => am_wr_ne hi)
  show W p l e R s m args below meth c H locs cells slots Q (F0 m pc ls (am_cv ka vF ad (106, v) :: .int (Int32.ofInt j) :: am_cv ka vF ad (15, rr) :: st'.map (am_cv ka vF ad)))
  rw [am_cv_r (t := 15) am_isr_a.2.2.2.2 h0 (by omega), am_cv_r (am_isr_o (c := 6) (by decide)) hv0 (by omega)]
  refine va_astq (r := (am_cn 6, am_T 6, (am_ft 6).length)) C.1 C.2.1 w3 w1 w2 q1 rr.toNat t0 v.toNat 6 ((am_ws_at a1).trans (by rw [am_en_q a2])) ht0 ((am_ws_at b1).trans (by rw [am_en_o (c := 6) b2])) (am_cl_at 6 (by decide)) (am_i_in hj hj0 hj1) hd (fun H1 locs1 e1 e2 e3 => ?_)
  rw [hset] at e1 e2
  · exact K H1 locs1 e1 e2 e3
  all_goals
    rw [am_en_q a2]
    refine congrArg (fun f => (Sum.inl (cA rr.toNat, am_len rr.toNat, Sum.inr (Sum.inr (Sum.inr (Sum.inr f)))) : va_E)) (funext fun j' => ?_)
    rw [am_wr_at, am_i_cl hj hj0]
    unfold va_up
    by_cases q : j' = j.toNat
    · rw [if_pos q, if_pos q, if_neg (by omega)]
    · rw [if_neg q, if_neg q]
