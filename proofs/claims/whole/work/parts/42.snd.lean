/-! SOUNDNESS: a run of the abstract machine is a contract of the machine. -/
theorem am_pad_len : ∀ (k : Nat) (l : List am_V), (am_pad k l).length = k := by
  intro k
  induction k with
  | zero => intro l; cases l <;> rfl
  | succ k ih => intro l; cases l <;> simp [am_pad, ih]
theorem am_pad_nil {ka : Nat → Nat} {vF : Value} {ad : Nat → Nat} : ∀ (k i : Nat), am_lv ka vF ad i (am_pad k []) = [] := by
  intro k
  induction k with
  | zero => intro i; rfl
  | succ k ih => intro i; exact ih (i + 1)
theorem am_pad_mem : ∀ (as : List am_V) (k i : Nat) (v : am_V), (am_pad k (am_spread as))[i]? = some v → v.1 ≠ 9 → v ∈ as := by
  have hnil : ∀ (k i : Nat) (v : am_V), (am_pad k [])[i]? = some v → v.1 = 9 := by
    intro k
    induction k with
    | zero => intro i v h; simp [am_pad] at h
    | succ k ih =>
      intro i v h
      cases i with
      | zero => cases (Option.some.inj h : ((9, 0) : am_V) = v); rfl
      | succ i => exact ih i v h
  intro as
  induction as with
  | nil => intro k i v h h9; exact absurd (hnil k i v h) h9
  | cons u as ih =>
    intro k i v h h9
    obtain ⟨t, z⟩ := u
    have h : (am_pad k (bif Nat.beq t 1 then (t, z) :: (9, 0) :: am_spread as else (t, z) :: am_spread as))[i]? = some v := h
    cases k with
    | zero => simp [am_pad] at h
    | succ k =>
      cases hb : Nat.beq t 1 with
      | true =>
        rw [hb] at h
        cases i with
        | zero => cases (Option.some.inj h : (t, z) = v); exact List.mem_cons_self
        | succ i =>
          have h : (am_pad k ((9, 0) :: am_spread as))[i]? = some v := h
          cases k with
          | zero => simp [am_pad] at h
          | succ k =>
            cases i with
            | zero => cases (Option.some.inj h : ((9, 0) : am_V) = v); exact absurd rfl h9
            | succ i => exact List.mem_cons_of_mem _ (ih k i v h h9)
      | false =>
        rw [hb] at h
        cases i with
        | zero => cases (Option.some.inj h : (t, z) = v); exact List.mem_cons_self
        | succ i => exact List.mem_cons_of_mem _ (ih k i v h h9)
theorem am_lv_args {ka : Nat → Nat} {vF : Value} {ad : Nat → Nat} (hF : vF.category = 1) : ∀ (as : List am_V) (k i : Nat), ∀ q ∈ am_lv ka vF ad i (am_pad k (am_spread as)), q ∈ lv_args i (as.map (am_cv ka vF ad)) := by
  intro as
  induction as with
  | nil => intro k i q hq; rw [show am_spread [] = [] from rfl, am_pad_nil] at hq; cases hq
  | cons u as ih =>
    intro k i q hq
    obtain ⟨t, z⟩ := u
    have hq : q ∈ am_lv ka vF ad i (am_pad k (bif Nat.beq t 1 then (t, z) :: (9, 0) :: am_spread as else (t, z) :: am_spread as)) := hq
    show q ∈ (i, am_cv ka vF ad (t, z)) :: lv_args (if (am_cv ka vF ad (t, z)).category = 2 then i + 2 else i + 1) (as.map (am_cv ka vF ad))
    rw [am_cv_cat hF]
    cases k with
    | zero => cases hq
    | succ k =>
      cases hb : Nat.beq t 1 with
      | true =>
        rw [hb] at hq
        show q ∈ (i, am_cv ka vF ad (t, z)) :: lv_args (i + 2) (as.map (am_cv ka vF ad))
        have ht : t = 1 := am_beq_t hb
        subst ht
        have hq : q ∈ (i, am_cv ka vF ad (1, z)) :: am_lv ka vF ad (i + 1) (am_pad k ((9, 0) :: am_spread as)) := hq
        rcases List.mem_cons.mp hq with e | hq
        · rw [e]; exact List.mem_cons_self
        · cases k with
          | zero => cases hq
          | succ k => exact List.mem_cons_of_mem _ (ih k (i + 2) q hq)
      | false =>
        rw [hb] at hq
        show q ∈ (i, am_cv ka vF ad (t, z)) :: lv_args (i + 1) (as.map (am_cv ka vF ad))
        have hq : q ∈ (bif Nat.beq t 9 then am_lv ka vF ad (i + 1) (am_pad k (am_spread as)) else (i, am_cv ka vF ad (t, z)) :: am_lv ka vF ad (i + 1) (am_pad k (am_spread as))) := hq
        cases h9 : Nat.beq t 9 with
        | true =>
          rw [h9] at hq
          exact List.mem_cons_of_mem _ (ih k (i + 1) q hq)
        | false =>
          rw [h9] at hq
          rcases List.mem_cons.mp hq with e | hq
          · rw [e]; exact List.mem_cons_self
          · exact List.mem_cons_of_mem _ (ih k (i + 1) q hq)
theorem am_sl_len {ka : Nat → Nat} {vF : Value} {ad : Nat → Nat} (hF : vF.category = 1) : ∀ (as : List am_V), (lg_sl (as.map (am_cv ka vF ad))).length = (am_spread as).length := by
  intro as
  induction as with
  | nil => rfl
  | cons u as ih =>
    obtain ⟨t, z⟩ := u
    unfold lg_sl at ih ⊢
    rw [List.map_cons, List.flatMap_cons, List.length_append, ih, am_cv_cat hF]
    show _ = (bif Nat.beq t 1 then (t, z) :: (9, 0) :: am_spread as else (t, z) :: am_spread as).length
    cases Nat.beq t 1
    · show 1 + _ = (am_spread as).length + 1; omega
    · show 2 + _ = (am_spread as).length + 1 + 1; omega
theorem am_fits_le : ∀ (l : List am_V) (k : Nat), am_fits k l = true → l.length ≤ k := by
  intro l
  induction l with
  | nil => intro k _; exact Nat.zero_le _
  | cons v l ih =>
    intro k h
    cases k with
    | zero => cases h
    | succ k => have := ih k h; simp; omega
theorem am_far : ∀ y, y < 278 → (am_code y 100000).isNone = true := by decide +kernel
theorem am_ex_far {md : Bool} {f d y : Nat} {S : am_S} {r : am_R} (hy : y < 278) (hS : S.1 = 100000) (h : am_ex md f d y S = some r) : False := by
  cases f with
  | zero => cases h
  | succ f =>
    rw [am_ex_s] at h
    unfold am_step at h
    rw [hS] at h
    have := am_far y hy
    cases hc : am_code y 100000 with
    | none => rw [hc] at h; cases h
    | some e => rw [hc] at this; cases this
theorem am_nar_c : ∀ z : Int, 0 ≤ z → z < 65536 → narrow .char (.int (Int32.ofInt z)) = .int (Int32.ofInt z) := by
  intro z h0 h1
  have := (pk_charN (q := z.toNat) (by omega)).1
  have e : (nI z.toNat) = Int32.ofInt z := by
    show Int32.ofInt (z.toNat : Int) = _
    rw [Int.toNat_of_nonneg h0]
  rwa [e] at this
theorem am_nar_b : ∀ z : Int, -128 ≤ z → z < 128 → narrow .byte (.int (Int32.ofInt z)) = .int (Int32.ofInt z) := by
  intro z h0 h1
  show Value.int (Int32.ofInt z).toInt8.toInt32 = _
  rw [am_i2b (a := z) ⟨by omega, by omega⟩]
  congr 2
  unfold am_w8 Int.bmod
  dsimp only
  omega
theorem am_rk_cases : ∀ y, y < 277 → am_rk y = 0 ∨ am_rk y = 1 ∨ am_rk y = 2 ∨ am_rk y = 3 ∨ am_rk y = 4 ∨ am_rk y = 16 ∨ am_rk y = 9 := by decide +kernel
theorem am_narrow {y : Nat} {z : Int} {ty : FieldType} (hr : am_rkT (am_rk y) = some ty) (hi : am_int (am_rk y)) (hz : am_zp (am_rk y) z) : narrow ty (.int (Int32.ofInt z)) = .int (Int32.ofInt z) := by
  obtain ⟨z2, z3, z4⟩ := hz
  rcases hi with h | h | h | h
  · rw [h] at hr; cases hr; rfl
  · rw [h] at hr; cases hr
    rcases z2 h with e | e <;> subst e <;> rfl
  · rw [h] at hr; cases hr
    obtain ⟨a, b⟩ := z3 h
    exact am_nar_c z a b
  · rw [h] at hr; cases hr
    obtain ⟨a, b⟩ := z4 h
    exact am_nar_b z a b
theorem am_HR_ok {p : Program} {l : Launch} {e : Env} {R : Room} {s : State} {m : MethodId} {args : Array Value} {below : List Frame} {meth : Method} {c : Code} {D : va_G} {B0 : Nat} {ka : Nat → Nat} {vF : Value} {md : Bool} {y n : Nat} {ad : Nat → Nat} {r : am_R} (C : am_Cx p s m args c y B0 ka vF) (hy : y < 277) (hret : meth.sig.returnType = am_rt y) (hlocks : meth.locks = false) :
    am_HR p l e R s m args below meth c (MQ below (am_Qc D B0 ka vF md (am_rkt (am_rk y)) n ad r.1 r.2.1 r.2.2) args s (r.2.2 - n) (am_sz r.2.2 - am_sz n) (fun q => B0 ≤ q)) D B0 ka vF md y n 0 0 ad r := by
  intro H locs ls ad' cA tys pc q1 hWd hext hn hok hz d0 d1 d16 d9 hk
  rw [Nat.zero_add, Nat.zero_add]
  rw [am_rt_rk y (by omega)] at hret
  have hq : ∀ t : State, t.heap = H → s.WarmedH t.vm → am_Qc D B0 ka vF md (am_rkt (am_rk y)) n ad r.1 r.2.1 r.2.2 args s (.returned (am_rv ka vF ad' (am_rkt (am_rk y)) r.1)) t := fun t ht hW =>
    ⟨⟨ad', cA, tys, rfl, hext, by rw [ht]; exact ⟨hWd.1, hWd.2.1, va_K.moved hW.alike hWd.2.2.1, hWd.2.2.2⟩, hok⟩, va_S.F q1 ht⟩
  rcases hk with hk | hk | hk | hk
  · have hT : ∃ ty, am_rkT (am_rk y) = some ty := by rcases hk with h | h | h | h <;> rw [h] <;> exact ⟨_, rfl⟩
    obtain ⟨ty, hT⟩ := hT
    have hnr := am_narrow hT hk hz
    rw [am_rkt_int hk] at hq ⊢
    exact W.zret C.1 C.2.1 (hret.trans hT) hnr hq q1.2.2 (d0 hk) hlocks
  · have hrk : am_rkt (am_rk y) = 1 := by rw [hk]; rfl
    rw [hrk] at hq ⊢
    exact W.lret C.1 C.2.1 (hret.trans (by rw [hk]; rfl)) hq q1.2.2 (d1 hk) hlocks
  · have hrk : am_rkt (am_rk y) = 16 := by rw [hk]; rfl
    have hok2 := hok (by rw [hrk]; decide)
    rw [hrk] at hq hok2 ⊢
    have hz2 : 2000 ≤ r.1 := by
      unfold am_ok at hok2
      dsimp only at hok2
      rcases hok2 with w | w | w | w | w | w | w
      · exact absurd w.1 (by decide)
      · exact absurd w.1 (by decide)
      · exact w.2.1
      · exact absurd w (by decide)
      · exact absurd w.1 (by decide)
      · exact absurd w.1 (by decide)
      · exact absurd w.1 (by decide)
    exact W.aret C.1 C.2.1 (hret.trans (by rw [hk]; rfl)) (Or.inl ⟨_, rfl⟩) (Or.inr ⟨_, am_cv_k (Or.inl rfl) (by omega)⟩) hq q1.2.2 (d16 hk) hlocks
  · have hrk : am_rkt (am_rk y) = 9 := by rw [hk]; rfl
    rw [hrk] at hq ⊢
    exact W.vret C.1 C.2.1 (hret.trans (by rw [hk]; rfl)) hq q1.2.2 (d9 hk) hlocks
theorem am_sound {l : Launch} {D : va_G} {B0 : Nat} {ka : Nat → Nat} {vF : Value} {md : Bool} : ∀ (f d y : Nat) (as : List am_V) (σ : am_M) (n : Nat) (q : am_R), y < 277 → am_ex md f d y (am_entry y as σ n) = some q → am_MO l D B0 ka vF md d y as σ n q := by
  intro f
  induction f using Nat.strongRecOn with
  | _ f ih =>
    intro d y as σ n q hy hrun
    have hfit : am_fits (am_ml y) (am_spread as) = true := by
      cases h : am_fits (am_ml y) (am_spread as) with
      | true => rfl
      | false => exact (am_ex_far (by omega) (by unfold am_entry; rw [h]; rfl) hrun).elim
    have hn := am_ex_n md f d y _ q hrun
    have hn : n ≤ q.2.2 := hn
    refine ⟨hn, fun ad cA tys hok => ?_⟩
    have hown := am_y_own y (by omega)
    refine Met.ofW (cc := am_by y) (maxL := am_ml y) (ret := am_rt y) (by rw [am_y_cls y (by omega)]; exact (am_cn_plain _ hown.1 hown.2.1).1) rfl ?_
    intro p e s m args below meth c s₁ B hml hv
    obtain ⟨hav, hSt, hB0, hWd⟩ := hv
    have hts := atoms_spec (ws := am_wy y) B.pre
    have hcls : s.vm.findClass (am_cn (am_own y)) = some m.cls := by rw [← am_y_cls y (by omega)]; exact findClass_of_methodNamed B.named
    have C : am_Cx p s m args c y B0 ka vF := ⟨B.exec, B.bytes, hml, hcls, fun w hw => hts w (List.mem_cons_of_mem _ hw), hSt, hB0, by omega⟩
    have hF := am_hF C
    have hHR := am_HR_ok (l := l) (e := e) (R := (headSpec (am_wy y) ({ frames := d + 1, cells := q.2.2 - n, slots := am_sz q.2.2 - am_sz n, locals := 100 * d + 100 } : Room)).room) (below := below) (meth := meth) (D := D) (md := md) (n := n) (ad := ad) (r := q) C hy B.returns B.notSynchronized
    have hR : am_Rm (headSpec (am_wy y) ({ frames := d + 1, cells := q.2.2 - n, slots := am_sz q.2.2 - am_sz n, locals := 100 * d + 100 } : Room)).room d 0 0 n q.2.2 := ⟨Nat.le_of_eq (Nat.zero_add _), Nat.le_of_eq (Nat.zero_add _), Nat.le_refl _, Nat.le_refl _⟩
    have hmn : am_ini y = true → meth.name = "<init>" := fun hi => (name_of_methodNamed B.named B.method).1.trans (am_ini_ok y (by omega) hi)
    have key : ∀ (g : Nat), g ≤ f → ∀ S, am_ex md g d y S = some q → am_Go p l e (headSpec (am_wy y) ({ frames := d + 1, cells := q.2.2 - n, slots := am_sz q.2.2 - am_sz n, locals := 100 * d + 100 } : Room)).room s m args below meth c (MQ below (am_Qc D B0 ka vF md (am_rkt (am_rk y)) n ad q.1 q.2.1 q.2.2) args s (q.2.2 - n) (am_sz q.2.2 - am_sz n) (fun q => B0 ≤ q)) D B0 ka vF md y n 0 0 ad q.2.2 S := by
      intro g
      induction g with
      | zero => intro _ S h; cases h
      | succ g ihg =>
        intro hg S h
        rw [am_ex_s] at h
        obtain ⟨pc, L, st, σ1, n1⟩ := S
        unfold am_step at h
        have hek := am_ek_ok y pc
        cases hc : am_code y pc with
        | none =>
          have h : (match am_code y pc with
            | some e => am_stp md y (am_cf md g d) (am_ex md g d y) e (pc, L, st, σ1, n1)
            | none => none) = some q := h
          rw [hc] at h; cases h
        | some en =>
          have h : (match am_code y pc with
            | some e => am_stp md y (am_cf md g d) (am_ex md g d y) e (pc, L, st, σ1, n1)
            | none => none) = some q := h
          rw [hc] at h
          unfold am_ek at hek
          rw [hc] at hek
          have hek : am_eok y pc en = true := hek
          unfold am_eok at hek
          rw [Bool.and_eq_true] at hek
          obtain ⟨hdec, hx⟩ := hek
          cases hd : decode (am_by y) pc with
          | error x => rw [hd] at hdec; cases hdec
          | ok il =>
            obtain ⟨i, len⟩ := il
            rw [hd] at hdec
            have hdec : (decide (i = en.1) && Nat.beq en.2.1 (pc + len) && (am_isw i || Nat.beq len (am_il i))) = true := hdec
            simp only [Bool.and_eq_true] at hdec
            obtain ⟨⟨hi, hnx⟩, hsw⟩ := hdec
            have hi : i = en.1 := of_decide_eq_true hi
            subst hi
            have h : am_live en.2.2.2 L (fun ls => am_ins md y (am_cf md g d) (am_ex md g d y) en.1 en.2.1 en.2.2.1 pc ls st σ1 n1) = some q := h
            have hgo : ∀ L', am_ins md y (am_cf md g d) (am_ex md g d y) en.1 en.2.1 en.2.2.1 pc L' st σ1 n1 = some q → am_Go p l e (headSpec (am_wy y) ({ frames := d + 1, cells := q.2.2 - n, slots := am_sz q.2.2 - am_sz n, locals := 100 * d + 100 } : Room)).room s m args below meth c (MQ below (am_Qc D B0 ka vF md (am_rkt (am_rk y)) n ad q.1 q.2.1 q.2.2) args s (q.2.2 - n) (am_sz q.2.2 - am_sz n) (fun q => B0 ≤ q)) D B0 ka vF md y n 0 0 ad q.2.2 (pc, L', st, σ1, n1) := fun L' h' =>
              go_ins (d := d) rfl C (k := am_ex md g d y) (r := q) (fun S hS => ihg (by omega) S hS) (call := am_cf md g d) (fun y' hy' as' σ' n' q' hq' => by
                cases d with
                | zero => cases hq'
                | succ d => exact ⟨d, rfl, ih g (by omega) d y' as' σ' n' q' hy' hq'⟩) hR hHR rfl hmn hd (am_beq_t hnx) hsw hx h'
            cases hm : en.2.2.2 with
            | none => rw [hm] at h; exact hgo L h
            | some b =>
              rw [hm] at h
              obtain ⟨L', h1, h2, h3⟩ := am_mask_some (b := b) (L := L) h
              obtain ⟨g1, g2⟩ := hgo L' h1
              refine ⟨g1, fun H locs cells slots ls ad1 cA1 tys1 P => g2 H locs cells slots ls ad1 cA1 tys1 ?_⟩
              obtain ⟨p1, p2, p3, p4, p5, p6⟩ := P
              refine ⟨p1, p2, am_has_sub p3 (fun v hv => ?_), h2.trans p4, fun i v hv h9 => p5 i v (h3 i v hv h9) h9, p6⟩
              obtain ⟨i, w, hw, h9, e⟩ := (am_lv_mem L' 0 v).mp hv
              exact (am_lv_mem L 0 v).mpr ⟨i, w, h3 i w hw h9, h9, e⟩
    have hgo := key f (Nat.le_refl _) _ hrun
    have hentry : am_entry y as σ n = (0, am_pad (am_ml y) (am_spread as), [], σ, n) := by unfold am_entry; rw [hfit]; rfl
    rw [hentry] at hgo
    subst hav
    rw [lg_entry_eq]
    have hl := lv_entry (as.map (am_cv ka vF ad)) (n := am_ml y) (by rw [am_sl_len hF]; exact am_fits_le _ _ hfit)
    exact hgo.2 s.heap [] 0 0 _ ad cA tys ⟨va_S.rf, hWd, am_has_sub hl (fun v hv => am_lv_args hF as _ _ v hv), am_pad_len _ _, fun i v hv h9 => hok v (am_pad_mem as _ i v hv h9), fun v hv => absurd hv List.not_mem_nil, Nat.le_refl _, fun i _ => rfl, by show 0 = 0 + (n - n); omega, by show 0 = 0 + (am_sz n - am_sz n); omega⟩
theorem am_run_ok {l : Launch} {D : va_G} {B0 : Nat} {ka : Nat → Nat} {vF : Value} {md : Bool} {d y : Nat} {as : List am_V} {σ : am_M} {n : Nat} {q : am_R} (hy : y < 277) (h : am_cal md (d + 1) y as σ n = some q) : am_MO l D B0 ka vF md d y as σ n q := by
  obtain ⟨f, hf⟩ := am_run_iff.mp (show am_run md d y (am_entry y as σ n) = some q from h)
  exact am_sound f d y as σ n q hy hf
