def am_tychk (c k : Nat) : Bool := match am_ty c k with
  | .int => Nat.beq (am_tyk c k) 0 && Nat.beq (am_at 0 (am_ft c) k) 0
  | .long => Nat.beq (am_tyk c k) 1 && Nat.beq (am_at 0 (am_ft c) k) 1
  | .boolean => Nat.beq (am_tyk c k) 2 && Nat.beq (am_at 0 (am_ft c) k) 0
  | .object _ => Nat.beq (am_tyk c k) 3 && am_isr (am_at 0 (am_ft c) k)
  | .array _ => Nat.beq (am_tyk c k) 3 && am_isr (am_at 0 (am_ft c) k)
  | _ => false
theorem am_tychk_ok : ∀ c, c < 11 → ∀ k, k < 79 → k < (am_ft c).length → am_tychk c k = true := by decide +kernel
theorem am_ft_len : ∀ c, c < 11 → (am_ft c).length ≤ 79 := by decide +kernel
theorem am_val_ok {ka : Nat → Nat} {vF : Value} {ad : Nat → Nat} {n c k : Nat} {v : Int} (hF : vF = .null ∨ ∃ a, vF = .ref a) (hc : c < 11) (hk : k < (am_ft c).length) (hv : am_ok n (am_at 0 (am_ft c) k, v)) (hb : am_tyk c k = 2 → v = 0 ∨ v = 1) :
    narrow (am_ty c k) (am_cv ka vF ad (am_at 0 (am_ft c) k, v)) = am_cv ka vF ad (am_at 0 (am_ft c) k, v) ∧ fits (am_ty c k) (am_cv ka vF ad (am_at 0 (am_ft c) k, v)) = true := by
  have h := am_tychk_ok c hc k (by have := am_ft_len c hc; omega) hk
  unfold am_tychk at h
  cases ht : am_ty c k <;> rw [ht] at h
  case int =>
    rw [Bool.and_eq_true] at h
    rw [am_beq_t h.2]
    exact ⟨rfl, rfl⟩
  case long =>
    rw [Bool.and_eq_true] at h
    rw [am_beq_t h.2]
    exact ⟨rfl, rfl⟩
  case boolean =>
    rw [Bool.and_eq_true] at h
    rw [am_beq_t h.2]
    rcases hb (am_beq_t h.1) with rfl | rfl <;> exact ⟨rfl, rfl⟩
  case object q =>
    rw [Bool.and_eq_true] at h
    have h10 : 10 ≤ am_at 0 (am_ft c) k := by
      have := h.2
      unfold am_isr at this
      rw [Bool.or_eq_true, Bool.and_eq_true, Bool.and_eq_true] at this
      rcases this with w | w
      · have := Nat.le_of_ble_eq_true w.1; omega
      · have := Nat.le_of_ble_eq_true w.1; omega
    rcases am_cv_ref (ka := ka) (ad := ad) hF h10 hv with e | ⟨a, e⟩ <;> rw [e] <;> exact ⟨rfl, rfl⟩
  case array q =>
    rw [Bool.and_eq_true] at h
    have h10 : 10 ≤ am_at 0 (am_ft c) k := by
      have := h.2
      unfold am_isr at this
      rw [Bool.or_eq_true, Bool.and_eq_true, Bool.and_eq_true] at this
      rcases this with w | w
      · have := Nat.le_of_ble_eq_true w.1; omega
      · have := Nat.le_of_ble_eq_true w.1; omega
    rcases am_cv_ref (ka := ka) (ad := ad) hF h10 hv with e | ⟨a, e⟩ <;> rw [e] <;> exact ⟨rfl, rfl⟩
  all_goals cases h
theorem am_own_T : ∀ c, c < 11 → ∀ k, k < (am_ft c).length → (am_T c k).1 = am_cn c := by
  intro c h k hk
  have key : ∀ c, c < 11 → ((List.range (am_ft c).length).map fun k => (am_T c k).1) = (List.range (am_ft c).length).map fun _ => am_cn c := by
    intro c h
    rcases c with _ | _ | _ | _ | _ | _ | _ | _ | _ | _ | _ | c
    all_goals first | rfl | exact absurd h (by omega)
  have h1 := congrArg (fun l => l[k]?) (key c h)
  simp only [List.getElem?_map, List.getElem?_range hk, Option.map_some, Option.some.injEq] at h1
  exact h1
theorem go_putfield {p : Program} {l : Launch} {e : Env} {R : Room} {s : State} {m : MethodId} {args : Array Value} {below : List Frame} {meth : Method} {c : Code} {Q : State → Prop} {D : va_G} {B0 : Nat} {ka : Nat → Nat} {vF : Value} {md : Bool} {y n0 c0 s0 : Nat} {ad0 : Nat → Nat} {nf : Nat} {G : am_S → Prop} (hG : G = am_Go p l e R s m args below meth c Q D B0 ka vF md y n0 c0 s0 ad0 nf) (C : am_Cx p s m args c y B0 ka vF) {k : am_S → Option am_R} {r : am_R} (hk : ∀ S, k S = some r → G S) {pc nx : Nat} {L st : List am_V} {σ : am_M} {n : Nat} (hmn : am_ini y = true → meth.name = "<init>") {j : Nat} {x : Nat × Nat × Nat × Nat} (hd : decode (am_by y) pc = .ok (.putfield j, 3)) (hn : nx = pc + 3) (hx : (am_okf (am_own y) j x && am_oki x && (bif Nat.beq x.2.2.2 1 then true else !am_at false (am_isf x.1) x.2.1) && (bif (am_T x.1 x.2.1).2.2.2 then am_ini y && Nat.beq (am_own y) x.1 else true) && (bif Nat.beq x.2.2.2 2 then Nat.beq (am_tyk x.1 x.2.1) 2 else !Nat.beq (am_tyk x.1 x.2.1) 2)) = true) (h : am_putf md x st (fun st σ => k (nx, L, st, σ, n)) σ = some r) : G (pc, L, st, σ, n) := by
  subst hn
  obtain ⟨u, v, st1, e1, h1⟩ := am_v1_some h
  obtain ⟨t, z, st', e2, h2⟩ := am_v1_some h1
  obtain ⟨hb, h3⟩ := am_bif_some h2
  obtain ⟨hz0, h4⟩ := am_if_some h3
  clear h h1 h2 h3
  rw [Bool.and_eq_true, Bool.and_eq_true] at hb
  obtain ⟨⟨b1, b2⟩, b3⟩ := hb
  obtain rfl := am_beq_t b1
  obtain rfl := am_beq_t b2
  simp only [Bool.and_eq_true] at hx
  obtain ⟨⟨⟨⟨hxf, hxi⟩, hx3⟩, hx4⟩, hx5⟩ := hx
  obtain ⟨c1, c2, c3⟩ := am_oki_s hxi
  have hw := am_fl_word (am_y18 C.2.2.2.2.2.2.2) hxf
  unfold am_fwd at hw
  rw [am_beq_n (a := x.1) (b := 16) (by omega)] at hw
  have hbool : am_tyk x.1 x.2.1 = 2 → v = 0 ∨ v = 1 := by
    intro e
    cases q : Nat.beq x.2.2.2 2 with
    | false => rw [q, e] at hx5; cases hx5
    | true => rw [q] at h4; exact (am_if_some h4).1
  have h5 : k (pc + 3, L, st', am_wr σ z.toNat x.2.1 v, n) = some r := by
    cases q : Nat.beq x.2.2.2 2 with
    | false => rw [q] at h4; exact h4
    | true => rw [q] at h4; exact (am_if_some h4).2
  refine go_mem hG C hk (us := [(x.2.2.1, v), (100 + x.1, z)]) (rest := st') (by rw [e1, e2]; rfl) (fun H locs cells slots ls ad cA tys P => ?_) h5
  rw [e1, e2] at P
  obtain ⟨q1, ⟨w1, w2, w3, w4, w5, w6, w7⟩, q3, q4, q5, q6, q7⟩ := P
  obtain ⟨a1, a2, a3⟩ := am_okc_lt (am_isr_o c1) (q6 (100 + x.1, z) (by simp)) hz0
  have hlen : am_len z.toNat = (am_ft x.1).length := by
    have := (am_len_ft z.toNat (by omega) (by omega)).1
    rw [a2, Nat.add_sub_cancel_left] at this
    exact this
  have hv := q6 (x.2.2.1, v) (by simp)
  have hsl : am_sl z.toNat x.2.1 = x.2.2.1 := by rw [am_sl_o a2]; exact c3.symm
  refine ⟨am_wr_okM w5 (by rw [hsl]; exact hv), am_wr_okF w6 (fun hm => ?_), fun K => ?_⟩
  · unfold am_isfn
    rw [a2, am_beq_n (by omega), Nat.add_sub_cancel_left]
    have e100 : Nat.ble 100 (100 + x.1) = true := Nat.ble_eq_true_of_le (by omega)
    rw [e100]
    rw [hm] at b3
    cases q : Nat.beq x.2.2.2 1 with
    | true => rw [q] at b3; cases b3
    | false => rw [q] at hx3; simpa using hx3
  · have hset : ∀ E, am_en ka vF ad cA (am_wr σ z.toNat x.2.1 v) z.toNat = E → (am_ws ka vF ad cA σ n).set z.toNat (ad z.toNat, E) = am_ws ka vF ad cA (am_wr σ z.toNat x.2.1 v) n := fun E hE => am_ws_set a1 hE (fun i' j' hi => am_wr_ne hi)
    have hE : am_en ka vF ad cA (am_wr σ z.toNat x.2.1 v) z.toNat = .inr (x.1, ((List.range (am_len z.toNat)).map fun j => am_cv ka vF ad (am_sl z.toNat j, σ z.toNat j)).set x.2.1 (am_cv ka vF ad (x.2.2.1, v))) := by
      rw [am_en_o a2]
      refine congrArg (fun f => (Sum.inr (x.1, f) : va_E)) (List.ext_getElem? fun i => ?_)
      rw [List.getElem?_set]
      by_cases hi : x.2.1 = i
      · subst hi
        rw [if_pos rfl, if_pos (by simpa [hlen] using c2), List.getElem?_map, List.getElem?_range (by rw [hlen]; exact c2)]
        show some (am_cv ka vF ad (am_sl z.toNat x.2.1, am_wr σ z.toNat x.2.1 v z.toNat x.2.1)) = _
        rw [am_wr_at, if_pos rfl, hsl]
      · rw [if_neg hi, List.getElem?_map, List.getElem?_map]
        by_cases hil : i < am_len z.toNat
        · rw [List.getElem?_range hil]
          show some (am_cv ka vF ad (am_sl z.toNat i, am_wr σ z.toNat x.2.1 v z.toNat i)) = some _
          rw [am_wr_at, if_neg (fun q => hi q.symm)]
        · rw [List.getElem?_eq_none (by simpa using hil)]; rfl
    obtain ⟨n1, n2⟩ := am_val_ok (ka := ka) (ad := ad) C.2.2.2.2.2.1.2.2.2.1 c1 c2 (c3 ▸ hv) hbool
    rw [← c3] at n1 n2
    show W p l e R s m args below meth c H locs cells slots Q (F0 m pc ls (am_cv ka vF ad (x.2.2.1, v) :: am_cv ka vF ad (100 + x.1, z) :: st'.map (am_cv ka vF ad)))
    rw [am_cv_r (am_isr_o c1) hz0 (by omega)]
    cases hfin : (am_T x.1 x.2.1).2.2.2 with
    | false =>
      refine va_put (C := am_cn x.1) (T := am_T x.1) (N := (am_ft x.1).length) (ref := (am_T x.1 x.2.1).1) C.1 C.2.1 C.2.2.2.2.1 (am_uws x.1 c1) (am_ty x.1) (am_ty_ok x.1 c1) (am_nm_ok x.1 c1) C.2.2.2.1 w3 w1 w2 q1 z.toNat ((am_ws_at a1).trans (by rw [am_en_o a2])) (am_cl_at x.1 c1) x.2.1 c2 (C.2.2.2.2.1 _ hw) (fun _ h9 => h9) hfin (am_ty_ok x.1 c1 x.2.1 c2) n1 n2 (by simpa [hlen] using c2) hd (fun H1 locs1 o1 o2 o3 => ?_)
      rw [hset _ hE] at o1 o2
      exact K H1 locs1 o1 o2 o3
    | true =>
      rw [hfin, ] at hx4
      have hx6 : am_ini y = true ∧ Nat.beq (am_own y) x.1 = true := by
        have : (am_ini y && Nat.beq (am_own y) x.1) = true := hx4
        rwa [Bool.and_eq_true] at this
      refine va_putF (C := am_cn x.1) (T := am_T x.1) (N := (am_ft x.1).length) (ref := (am_T x.1 x.2.1).1) C.1 C.2.1 C.2.2.2.2.1 (am_uws x.1 c1) (am_ty x.1) (am_ty_ok x.1 c1) (am_nm_ok x.1 c1) C.2.2.2.1 w3 w1 w2 q1 z.toNat ((am_ws_at a1).trans (by rw [am_en_o a2])) (am_cl_at x.1 c1) x.2.1 c2 (C.2.2.2.2.1 _ hw) (fun _ h9 => h9) hfin (hmn hx6.1) (by rw [am_own_T x.1 c1 x.2.1 c2, am_beq_t hx6.2]) (am_ty_ok x.1 c1 x.2.1 c2) n1 n2 (by simpa [hlen] using c2) hd (fun H1 locs1 o1 o2 o3 => ?_)
      rw [hset _ hE] at o1 o2
      exact K H1 locs1 o1 o2 o3
