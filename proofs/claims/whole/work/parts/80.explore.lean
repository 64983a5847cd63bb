/-! EXPLORE -/
theorem mx_vs_l {k : Int} {μ μ1 μ' : am_M} (h : mx_vs k μ1 μ') (h1 : μ1 2 17 = μ 2 17) (h2 : μ1 2 3 = μ 2 3) (h3 : μ1 2 9 = μ 2 9) (hc : ∀ i, 5 ≤ i → i ≤ 11 → μ1 i = μ i) : mx_vs k μ μ' := by
  rcases h with h | h
  · exact Or.inl ⟨by omega, by omega⟩
  · exact Or.inr ⟨by omega, by omega, by omega, fun i a b => (h.2.2.2 i a b).trans (hc i a b)⟩
theorem mx_vs_up {k k' : Int} {μ μ' : am_M} (h : mx_vs k μ μ') (hk : k ≤ k') : mx_vs k' μ μ' := by
  rcases h with h | h
  · exact Or.inl ⟨by omega, by omega⟩
  · exact Or.inr h
theorem mx_vs_rf {k : Int} {μ : am_M} : mx_vs k μ μ := Or.inr ⟨rfl, rfl, rfl, fun _ _ _ => rfl⟩
theorem mx_vs_b {k : Int} {μ μ' : am_M} (h : mx_vs k μ μ') (hk : 0 ≤ k) : μ 2 17 ≤ μ' 2 17 ∧ μ' 2 17 ≤ μ 2 17 + k := by
  rcases h with h | h <;> omega
def mx_s7 (F : Nat → Int) : Int := am_w (F 0 + F 1 + F 2 + F 3 + F 4 + F 5 + F 6)
theorem mx_s7_up (F : Nat → Int) (r : Nat) (hr : r < 7) : mx_s7 (mx_up F r (am_w (F r + 1))) = am_w (mx_s7 F + 1) := by
  unfold mx_s7
  rw [mx_w_add]
  have : r = 0 ∨ r = 1 ∨ r = 2 ∨ r = 3 ∨ r = 4 ∨ r = 5 ∨ r = 6 := by omega
  rcases this with q | q | q | q | q | q | q <;> subst q <;> simp only [mx_up_at, mx_up_ne (show (0 : Nat) ≠ 1 by decide), mx_up_ne (show (0 : Nat) ≠ 2 by decide), mx_up_ne (show (0 : Nat) ≠ 3 by decide), mx_up_ne (show (0 : Nat) ≠ 4 by decide), mx_up_ne (show (0 : Nat) ≠ 5 by decide), mx_up_ne (show (0 : Nat) ≠ 6 by decide),
    mx_up_ne (show (1 : Nat) ≠ 0 by decide), mx_up_ne (show (1 : Nat) ≠ 2 by decide), mx_up_ne (show (1 : Nat) ≠ 3 by decide), mx_up_ne (show (1 : Nat) ≠ 4 by decide), mx_up_ne (show (1 : Nat) ≠ 5 by decide), mx_up_ne (show (1 : Nat) ≠ 6 by decide),
    mx_up_ne (show (2 : Nat) ≠ 0 by decide), mx_up_ne (show (2 : Nat) ≠ 1 by decide), mx_up_ne (show (2 : Nat) ≠ 3 by decide), mx_up_ne (show (2 : Nat) ≠ 4 by decide), mx_up_ne (show (2 : Nat) ≠ 5 by decide), mx_up_ne (show (2 : Nat) ≠ 6 by decide),
    mx_up_ne (show (3 : Nat) ≠ 0 by decide), mx_up_ne (show (3 : Nat) ≠ 1 by decide), mx_up_ne (show (3 : Nat) ≠ 2 by decide), mx_up_ne (show (3 : Nat) ≠ 4 by decide), mx_up_ne (show (3 : Nat) ≠ 5 by decide), mx_up_ne (show (3 : Nat) ≠ 6 by decide),
    mx_up_ne (show (4 : Nat) ≠ 0 by decide), mx_up_ne (show (4 : Nat) ≠ 1 by decide), mx_up_ne (show (4 : Nat) ≠ 2 by decide), mx_up_ne (show (4 : Nat) ≠ 3 by decide), mx_up_ne (show (4 : Nat) ≠ 5 by decide), mx_up_ne (show (4 : Nat) ≠ 6 by decide),
    mx_up_ne (show (5 : Nat) ≠ 0 by decide), mx_up_ne (show (5 : Nat) ≠ 1 by decide), mx_up_ne (show (5 : Nat) ≠ 2 by decide), mx_up_ne (show (5 : Nat) ≠ 3 by decide), mx_up_ne (show (5 : Nat) ≠ 4 by decide), mx_up_ne (show (5 : Nat) ≠ 6 by decide),
    mx_up_ne (show (6 : Nat) ≠ 0 by decide), mx_up_ne (show (6 : Nat) ≠ 1 by decide), mx_up_ne (show (6 : Nat) ≠ 2 by decide), mx_up_ne (show (6 : Nat) ≠ 3 by decide), mx_up_ne (show (6 : Nat) ≠ 4 by decide), mx_up_ne (show (6 : Nat) ≠ 5 by decide)]
  · rw [show am_w (F 0 + 1) + F 1 + F 2 + F 3 + F 4 + F 5 + F 6 = am_w (F 0 + 1) + (F 1 + F 2 + F 3 + F 4 + F 5 + F 6) by omega, mx_w_add]
    exact congrArg am_w (by omega)
  · rw [show F 0 + am_w (F 1 + 1) + F 2 + F 3 + F 4 + F 5 + F 6 = am_w (F 1 + 1) + (F 0 + F 2 + F 3 + F 4 + F 5 + F 6) by omega, mx_w_add]
    exact congrArg am_w (by omega)
  · rw [show F 0 + F 1 + am_w (F 2 + 1) + F 3 + F 4 + F 5 + F 6 = am_w (F 2 + 1) + (F 0 + F 1 + F 3 + F 4 + F 5 + F 6) by omega, mx_w_add]
    exact congrArg am_w (by omega)
  · rw [show F 0 + F 1 + F 2 + am_w (F 3 + 1) + F 4 + F 5 + F 6 = am_w (F 3 + 1) + (F 0 + F 1 + F 2 + F 4 + F 5 + F 6) by omega, mx_w_add]
    exact congrArg am_w (by omega)
  · rw [show F 0 + F 1 + F 2 + F 3 + am_w (F 4 + 1) + F 5 + F 6 = am_w (F 4 + 1) + (F 0 + F 1 + F 2 + F 3 + F 5 + F 6) by omega, mx_w_add]
    exact congrArg am_w (by omega)
  · rw [show F 0 + F 1 + F 2 + F 3 + F 4 + am_w (F 5 + 1) + F 6 = am_w (F 5 + 1) + (F 0 + F 1 + F 2 + F 3 + F 4 + F 6) by omega, mx_w_add]
    exact congrArg am_w (by omega)
  · rw [show F 0 + F 1 + F 2 + F 3 + F 4 + F 5 + am_w (F 6 + 1) = am_w (F 6 + 1) + (F 0 + F 1 + F 2 + F 3 + F 4 + F 5) by omega, mx_w_add]
    exact congrArg am_w (by omega)
section
variable {n : Nat} {μ : am_M} {r e f : Nat}
theorem mx_akm (hg : mx_gd μ) (d : Nat) (k o x y : Int) : me_alike (d + 2) k o x y μ n = some (mx_fmt μ (k, o, x, y), μ, n) := by
  have w2 := hg.1.2.1
  rw [me_alike_s _ _ _ _ _ _ _ (by omega) hg.2.1]
  rfl
/-- what comes of it -/
theorem out_b (hg : mx_gd μ) (h : mx_fb μ r e f) (h4 : r ≠ 4) (gi gr : Int) (hgi : r ≠ 0 → 0 ≤ gi ∧ gi < μ 2 9 ∧ μ 10 gi.toNat = gi ∧ μ 11 gi.toNat = mx_cb (mx_i4 μ r e f).1 (mx_i4 μ r e f).2.1 (mx_yc (μ 11) (mx_i4 μ r e f).2.2.1) (mx_yc (μ 11) (mx_i4 μ r e f).2.2.2)) (hgr : r ≠ 0 → gr = gi)
    (p4 : μ 28 8 = (mx_o4 μ r e f (-2)).1 ∧ μ 28 9 = (mx_o4 μ r e f (-2)).2.1 ∧ μ 28 10 = (mx_o4 μ r e f (-2)).2.2.1 ∧ μ 28 11 = (mx_o4 μ r e f (-2)).2.2.2) (h1 : μ 28 1 = e) (hroom : mx_fmt μ (mx_o4 μ r e f gi) = -1 → μ 2 3 < 64) (hv : 0 ≤ μ 2 17 ∧ μ 2 17 < 2147483000) (d : Nat) :
    ∃ μ' : am_M, fi_fire_134 (d + 5) gi μ n = some (0, μ', n) ∧ mx_Fq [5, 6, 7, 8, 9, 10, 12] [(2, 3), (2, 17)] μ μ' ∧ mx_gd μ' ∧ (∀ S W, mx_Fs μ S W → mx_Fs μ' S W) ∧ mx_vs 1 μ μ' ∧ μ 2 3 ≤ μ' 2 3 ∧
      ∀ τ : am_M, mx_rl μ τ → τ 82 65 = e → τ 82 66 = r → (r ≠ 0 → τ 82 67 = f) → ∃ τ' : am_M, mo_fires_134 (d + 5) e gr τ n = some (0, τ', n) ∧ mx_Fq [89, 90, 91, 92, 93, 94, 95, 137] [(82, 1)] τ τ' ∧ mx_rl μ' τ' := by
  have h64 := hg.2.1
  have w2 := hg.1.2.1
  have he := h.1.1
  have E : (0 : Int) ≤ e ∧ (e : Int) < 64 := ⟨by omega, by omega⟩
  have E4 : (e : Int) < 144 := by omega
  have og : mx_o4 μ r e f gr = mx_o4 μ r e f gi := by
    by_cases r0 : r = 0
    · unfold mx_o4; rw [if_pos r0, if_pos r0]
    · rw [hgr r0]
  obtain ⟨lo, cb⟩ := mx_leg_o hg h h4 (Int.le_refl _) (fun _ _ => rfl) (fun _ _ => rfl) hgi
  have bd : -1 ≤ μ 7 e ∧ -1 ≤ μ 8 e ∧ -1 ≤ μ 7 f ∧ -1 ≤ μ 8 f := by have a := mx_bnd hg e h.1.1; have b := mx_bnd hg f h.2.1.1; exact ⟨a.1, a.2, b.1, b.2⟩
  obtain ⟨q1, q2, q3, q4⟩ := mx_o4_f (r := r) (g := gi) bd
  have hh := (hg.1.2.2.1.1 e h.1.1 h.1.2).1
  -- the class, up to what is there
  have cls : fi_fire_134 (d + 5) gi μ n = if mx_fmt μ (mx_o4 μ r e f gi) = -1 then (me_addTo (d + 5) (μ 9 e) (mx_o4 μ r e f gi).1 (mx_o4 μ r e f gi).2.1 (mx_o4 μ r e f gi).2.2.1 (mx_o4 μ r e f gi).2.2.2 μ n).bind (fun q5 => some (0, q5.2.1, q5.2.2))
      else am_ix 9 (mx_fmt μ (mx_o4 μ r e f gi)) ((me_unify (d + 5) (μ 9 (mx_fmt μ (mx_o4 μ r e f gi)).toNat) (μ 9 e) μ n).bind fun q4 => some (0, q4.2.1, q4.2.2)) := by
    rw [fi_fire_134_e, fi_filled_s, Option.bind_some, p4.2.2.1]
    dsimp only
    rw [fi_filled_s, Option.bind_some, p4.2.2.2, q3]
    dsimp only
    rw [q4, p4.1, p4.2.1, q1, q2, mx_akm hg (d + 3), Option.bind_some]
    dsimp only
    rw [p4.1, p4.2.1, q1, q2, h1, ix_9 E.1 E.2, ix_9 E.1 E.2, Int.toNat_natCast]
  have ref : ∀ τ : am_M, mx_rl μ τ → τ 82 65 = e → τ 82 66 = r → (r ≠ 0 → τ 82 67 = f) → ∃ x' y' : Int, ((0 ≤ x' ∧ x' < μ 2 9) ∧ μ 10 x'.toNat = (mx_o4 μ r e f gi).2.2.1) ∧ (5 ≤ (mx_o4 μ r e f gi).1 → (0 ≤ y' ∧ y' < μ 2 9) ∧ μ 10 y'.toNat = (mx_o4 μ r e f gi).2.2.2) ∧
      mo_fires_134 (d + 5) e gr τ n = if mx_fmt μ (mx_o4 μ r e f gi) = -1 then (mo_adds (d + 5) (mx_o4 μ r e f gi).1 (mx_o4 μ r e f gi).2.1 x' y' (μ 9 e) (mx_wh τ (mx_o4 μ r e f gi).1 (mx_o4 μ r e f gi).2.1 x' y') n).bind (fun q5 => some (0, q5.2.1, q5.2.2))
        else am_ix 93 (mx_fmt μ (mx_o4 μ r e f gi)) ((mo_merges (d + 5) (τ 93 (mx_fmt μ (mx_o4 μ r e f gi)).toNat) (τ 93 e) (mx_wh τ (mx_o4 μ r e f gi).1 (mx_o4 μ r e f gi).2.1 x' y') n).bind fun q4 => some (0, q4.2.1, q4.2.2)) := by
    intro τ hr t1 t2 t3
    obtain ⟨x', y', p1, p2, p3⟩ := mo_comes_s (n := n) hg hr h h4 (d + 3) gr (fun q => by rw [hgr q]; exact ⟨(hgi q).1, (hgi q).2.1, (hgi q).2.2.1⟩) t1 t2 t3
    rw [og] at p1 p2 p3
    obtain ⟨i0, i1, i2, i3⟩ := mx_wh_i (τ := τ) (a := (mx_o4 μ r e f gi).1) (b := (mx_o4 μ r e f gi).2.1) (c := x') (d := y')
    have ew : (mx_wh τ (mx_o4 μ r e f gi).1 (mx_o4 μ r e f gi).2.1 x' y') 93 = τ 93 := mx_wh_f 93 (by decide)
    have hin := ((hr.1.1 e h.1.1).2.2.2 h.1.2).1
    refine ⟨x', y', p2, p3, ?_⟩
    rw [mo_fires_134_e, p1, Option.bind_some, ix_137 (by decide) (by decide), ix_137 (by decide) (by decide), ix_137 (by decide) (by decide), ix_137 (by decide) (by decide)]
    dsimp only
    rw [i0, i1, i2, i3, mo_alike_m (mx_rl_wh hr) lo (d + 3) x' y' (fun _ => p2) p3, Option.bind_some, ix_137 (by decide) (by decide), ix_137 (by decide) (by decide), ix_137 (by decide) (by decide), ix_137 (by decide) (by decide), ix_93 E.1 E4, ix_93 E.1 E4, Int.toNat_natCast]
    dsimp only
    rw [i0, i1, i2, i3, ew, mo_root_r (mx_rl_wh hr).1 (d + 4) n _ hin.1 hin.2.1, Option.bind_some, hin.2.2]
    rfl
  by_cases z : mx_fmt μ (mx_o4 μ r e f gi) = -1
  · obtain ⟨μ', a1, a2, a3, a4, a5, a6, a7⟩ := ato_b (n := n) hg (d + 4) (d + 3) lo hh cb z (hroom z) hv
    refine ⟨μ', ?_, mx_fq_up a2 rfl, a3, a4, a5, by omega, fun τ hr t1 t2 t3 => ?_⟩
    · rw [cls, if_pos z, a1]; rfl
    · obtain ⟨x', y', b1, b2, b3⟩ := ref τ hr t1 t2 t3
      obtain ⟨τ', c1, c2, c3⟩ := a7 _ (mx_rl_wh hr) x' y' (fun _ => b1) b2
      refine ⟨τ', ?_, mx_fq_tr (mx_fq_up (mx_fq_of mx_wh_f) rfl) (mx_fq_up c2 rfl), c3⟩
      rw [b3, if_pos z, c1]; rfl
  · have fr := mx_fmt_r hg (mx_o4 μ r e f gi)
    have fr' : 0 ≤ mx_fmt μ (mx_o4 μ r e f gi) ∧ mx_fmt μ (mx_o4 μ r e f gi) < μ 2 3 ∧ μ 9 (mx_fmt μ (mx_o4 μ r e f gi)).toNat ≠ -1 := by rcases fr with q | q; exact absurd q z; exact q
    obtain ⟨i, hi⟩ : ∃ i : Nat, mx_fmt μ (mx_o4 μ r e f gi) = i := ⟨(mx_fmt μ (mx_o4 μ r e f gi)).toNat, by omega⟩
    have hi2 := hi
    rw [hi, Int.toNat_natCast] at fr'
    rw [hi, Int.toNat_natCast] at cls
    have I : (0 : Int) ≤ i ∧ (i : Int) < 64 ∧ (i : Int) < 144 := ⟨by omega, by omega, by omega⟩
    have hC : μ 11 (μ 9 i).toNat = μ 11 (μ 9 e).toNat := by
      rcases mx_fi_r (mx_al (μ 5) (μ 6) (μ 7) (μ 8) (μ 9) (mx_o4 μ r e f gi).1 (mx_o4 μ r e f gi).2.1 (mx_o4 μ r e f gi).2.2.1 (mx_o4 μ r e f gi).2.2.2) (μ 2 3) (by omega) with ⟨q, -⟩ | ⟨j, q, y2, y3, -⟩
      · exact absurd q z
      · have ej : j = i := by have := q.symm.trans hi2; omega
        subst ej
        obtain ⟨b1, b2, b3, b4, b5⟩ := of_decide_eq_true y3
        rw [(hg.1.2.2.2.2.2.2.2.2 j fr'.2.1 fr'.2.2).1, b1, b2, b3, b4, cb]
    have hii := (hg.1.2.2.1.1 i fr'.2.1 fr'.2.2).1
    obtain ⟨μ', a1, a2, a3, a4, a5, a6, a7⟩ := unify_b (n := n) hg (d + 1) hii hh hC hv
    have n1 : ¬ ((i : Int) = -1) := by omega
    refine ⟨μ', ?_, mx_fq_up a2 rfl, a3, a4, a5, by rw [a2 2 3 (by decide) (by decide)]; exact Int.le_refl _, fun τ hr t1 t2 t3 => ?_⟩
    · rw [cls, if_neg n1, ix_9 I.1 I.2.1, a1]; rfl
    · obtain ⟨x', y', b1, b2, b3⟩ := ref τ hr t1 t2 t3
      have hin := ((hr.1.1 e h.1.1).2.2.2 h.1.2).1
      have hii2 := ((hr.1.1 i fr'.2.1).2.2.2 fr'.2.2).1
      obtain ⟨τ', c1, c2, c3⟩ := a7 _ (mx_rl_wh hr) (τ 93 i) (τ 93 e) ⟨hii2.1, hii2.2.1⟩ ⟨hin.1, hin.2.1⟩ (Or.inl ⟨hii2.2.2, hin.2.2⟩)
      refine ⟨τ', ?_, mx_fq_tr (mx_fq_up (mx_fq_of mx_wh_f) rfl) (mx_fq_up (mx_fq_of c2) rfl), c3⟩
      rw [hi, Int.toNat_natCast] at b3
      rw [b3, if_neg n1, ix_93 I.1 I.2.2, c1]; rfl
theorem mx_bt1 (x : Int) : am_lor x 1 ≠ 0 := by
  intro h
  have := mx_bt_or x 1 0
  rw [h, mx_bt_0, show mx_bt 1 0 = true by decide, Bool.or_true] at this
  cases this
def mx_ixf (e r f : Nat) : Nat := 455 * e + 65 * r + (if r = 0 then 64 else f)
theorem mx_Fs_fire {S W : Nat → Int} (hS : mx_Fs μ S W) (he : (e : Int) < μ 2 3) (hf : (f : Int) < μ 2 3) (hm : μ 2 3 ≤ 64) (hr : r < 7) : mx_Fs μ (mx_up S (7 * e + r) (am_lor (S (7 * e + r)) (if r = 0 then 1 else am_lshl 1 (f : Int)))) (mx_up W (mx_ixf e r f) 1) := by
  obtain ⟨f0, f1, f2⟩ := hS
  have he64 : e < 64 := by omega
  have hf64 : f < 64 := by omega
  unfold mx_ixf
  refine ⟨fun i hi => ?_, fun e' he' => ?_, fun e' r' f' he' hr1' hr' hf' => ?_⟩
  · by_cases q : i = 455 * e + 65 * r + (if r = 0 then 64 else f)
    · rw [q, mx_up_at]; exact Or.inr rfl
    · rw [mx_up_ne q]; exact f0 i hi
  · by_cases r0 : r = 0
    · subst r0
      rw [if_pos rfl, if_pos rfl]
      by_cases q : e' = e
      · subst q
        have e1 : 7 * e' + 0 = 7 * e' := rfl
        have e2 : 455 * e' + 65 * 0 + 64 = 455 * e' + 64 := rfl
        rw [e1, e2, mx_up_at, mx_up_at]
        exact ⟨⟨fun z => absurd z (mx_bt1 _), fun z => by omega⟩, fun z => by omega⟩
      · rw [mx_up_ne (by omega), mx_up_ne (by omega)]
        exact f1 e' he'
    · rw [if_neg r0, if_neg r0, mx_up_ne (by omega), mx_up_ne (by omega)]
      exact f1 e' he'
  · obtain ⟨a, b, c⟩ := f2 e' r' f' he' hr1' hr' hf'
    by_cases r0 : r = 0
    · subst r0
      rw [if_pos rfl, if_pos rfl, mx_up_ne (by omega), mx_up_ne (by omega)]
      exact ⟨a, b, c⟩
    · rw [if_neg r0, if_neg r0]
      by_cases q : 7 * e' + r' = 7 * e + r
      · have q1 : e' = e := by omega
        have q2 : r' = r := by omega
        subst q1
        subst q2
        rw [mx_up_at, mx_bt_or, mx_bt_one f hf64 f' hf']
        by_cases z : f' = f
        · subst z
          rw [mx_up_at, decide_eq_true rfl, Bool.or_true]
          exact ⟨fun _ => rfl, fun _ => Or.inl (by decide), fun w => by omega⟩
        · rw [mx_up_ne (by omega), decide_eq_false z, Bool.or_false]
          exact ⟨a, b, c⟩
      · rw [mx_up_ne q, mx_up_ne (by omega)]
        exact ⟨a, b, c⟩
theorem mx_cd_fb (hg : mx_gd μ) {W : Nat → Int} {F : Int} (h : mx_cd μ W e r F) : ∃ f : Nat, mx_fb μ r e f ∧ F = (if r = 0 then -1 else (f : Int)) := by
  obtain ⟨h1, h2, h3, h4, ⟨rfl, h5, h6⟩ | ⟨h5, f', h6, h7, h8, h9, -⟩⟩ := h
  · exact ⟨e, ⟨⟨h1, h2⟩, ⟨h1, h2⟩, ⟨h3, h4⟩, fun q => absurd rfl q⟩, by rw [if_pos rfl]; exact h5⟩
  · have r0 : r ≠ 0 := by omega
    have hk : μ 5 e ≠ 1 := fun q => by
      rw [q] at h4
      unfold mx_tk at h4
      revert h4
      have : r = 1 ∨ r = 2 ∨ r = 3 ∨ r = 4 ∨ r = 5 ∨ r = 6 := by omega
      rcases this with q | q | q | q | q | q <;> subst q <;> decide
    have hx : μ 7 e ≠ -1 := fun q => hk (((hg.1.2.2.2.1 e h1).2.2.2.2.2 h2).1.mpr q)
    exact ⟨f', ⟨⟨h1, h2⟩, ⟨h7, by rw [h8]; exact hx⟩, ⟨h3, h4⟩, fun _ => ⟨h8, h9⟩⟩, by rw [if_neg r0]; exact h6⟩
end
