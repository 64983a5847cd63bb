/-! one is told, one comes of a firing: both sides -/
theorem mx_gd_fr {μ μ' : am_M} (h : mx_gd μ) (hc : ∀ i j, 2 ≤ i → i ≤ 12 → (i = 2 → j = 0 ∨ j = 3 ∨ j = 9) → μ' i j = μ i j) : mx_gd μ' := by
  have c : ∀ i, 3 ≤ i → i ≤ 12 → μ' i = μ i := fun i a b => funext fun j => hc i j (by omega) b (by omega)
  unfold mx_gd
  show mx_W (μ' 2 0) (μ' 2 3) (μ' 2 9) (μ' 3) (μ' 4) (μ' 5) (μ' 6) (μ' 7) (μ' 8) (μ' 9) (μ' 10) (μ' 11) ∧ _
  rw [hc 2 0 (by decide) (by decide) (by omega), hc 2 3 (by decide) (by decide) (by omega), hc 2 9 (by decide) (by decide) (by omega), c 3 (by decide) (by decide), c 4 (by decide) (by decide), c 5 (by decide) (by decide), c 6 (by decide) (by decide), c 7 (by decide) (by decide), c 8 (by decide) (by decide), c 9 (by decide) (by decide), c 10 (by decide) (by decide), c 11 (by decide) (by decide), c 12 (by decide) (by decide)]
  exact h
theorem mx_rl_mu {μ μ' τ : am_M} (h : mx_rl μ τ) (hc : ∀ i j, 2 ≤ i → i ≤ 10 → (i = 2 → j = 0 ∨ j = 3 ∨ j = 9) → μ' i j = μ i j) : mx_rl μ' τ := by
  have c : ∀ i, 3 ≤ i → i ≤ 10 → μ' i = μ i := fun i a b => funext fun j => hc i j (by omega) b (by omega)
  unfold mx_rl
  show mx_R (μ' 2 3) (μ' 2 9) (μ' 5) (μ' 6) (μ' 7) (μ' 8) (μ' 9) (μ' 10) τ ∧ mx_RT (μ' 2 0) (μ' 3) (μ' 4) τ
  rw [hc 2 0 (by decide) (by decide) (by omega), hc 2 3 (by decide) (by decide) (by omega), hc 2 9 (by decide) (by decide) (by omega), c 3 (by decide) (by decide), c 4 (by decide) (by decide), c 5 (by decide) (by decide), c 6 (by decide) (by decide), c 7 (by decide) (by decide), c 8 (by decide) (by decide), c 9 (by decide) (by decide), c 10 (by decide) (by decide)]
  exact h
theorem mx_Fs_mu {μ μ' : am_M} {S W : Nat → Int} (h : mx_Fs μ S W) (hc : ∀ i j, 2 ≤ i → i ≤ 11 → (i = 2 → j = 0 ∨ j = 3 ∨ j = 9) → μ' i j = μ i j) : mx_Fs μ' S W := by
  have c : ∀ i, 3 ≤ i → i ≤ 11 → μ' i = μ i := fun i a b => funext fun j => hc i j (by omega) b (by omega)
  show mx_Fg (μ' 2 3) (μ' 5) (μ' 6) (μ' 7) (μ' 8) (μ' 9) (μ' 11) S W
  rw [hc 2 3 (by decide) (by decide) (by omega), c 5 (by decide) (by decide), c 6 (by decide) (by decide), c 7 (by decide) (by decide), c 8 (by decide) (by decide), c 9 (by decide) (by decide), c 11 (by decide) (by decide)]
  exact h
/-- what both have become -/
def mx_gr (μ μ' : am_M) : Prop := μ 2 3 ≤ μ' 2 3 ∧ μ 2 9 ≤ μ' 2 9 ∧ (∀ i : Nat, (i : Int) < μ 2 9 → μ' 11 i = μ 11 i) ∧ (∀ e : Nat, (e : Int) < μ 2 3 → μ' 5 e = μ 5 e ∧ μ' 6 e = μ 6 e)
section
variable {n : Nat} {μ : am_M}
theorem tell_b (hg : mx_gd μ) (d d2 : Nat) {k o x y : Int} (hl : mx_lm μ k o x y) (hroom : mx_fm μ k o x y = -1 → μ 2 3 < 64) (hv : 0 ≤ μ 2 17 ∧ μ 2 17 < 2147483000) :
    ∃ (gi : Int) (μ' : am_M), me_tell (d + 3) k o x y μ n = some (gi, μ', n) ∧ mx_Fq [5, 6, 7, 8, 9, 10, 11, 12] [(2, 3), (2, 9), (2, 17)] μ μ' ∧ mx_gd μ' ∧ (∀ S W, mx_Fs μ S W → mx_Fs μ' S W) ∧ mx_vs 1 μ μ' ∧
      (μ' 2 3 = μ 2 3 + (if mx_fm μ k o x y = -1 then 1 else 0) ∧ μ 2 9 ≤ μ' 2 9) ∧ (0 ≤ gi ∧ gi < μ' 2 9 ∧ μ' 10 gi.toNat = gi ∧ μ' 11 gi.toNat = mx_cb k o (mx_tc (μ 3) (μ 11) k o x) (mx_yc (μ 11) y)) ∧
      (∀ i : Nat, (i : Int) < μ 2 9 → μ' 10 i = μ 10 i ∧ μ' 11 i = μ 11 i) ∧ (∀ e : Nat, (e : Int) < μ 2 3 → μ' 5 e = μ 5 e ∧ μ' 6 e = μ 6 e ∧ μ' 7 e = μ 7 e ∧ μ' 8 e = μ 8 e ∧ μ' 9 e = μ 9 e) ∧ (mx_fm μ k o x y ≠ -1 → μ' = μ ∧ gi = μ 9 (mx_fm μ k o x y).toNat) ∧
      ∀ τ : am_M, mx_rl μ τ → ∀ x' y' : Int, (k ≠ 1 → (0 ≤ x' ∧ x' < μ 2 9) ∧ μ 10 x'.toNat = x) → (5 ≤ k → (0 ≤ y' ∧ y' < μ 2 9) ∧ μ 10 y'.toNat = y) → ∃ τ' : am_M, mo_told (d2 + 3) k o x' y' τ n = some (gi, τ', n) ∧ mx_Fq [89, 90, 91, 92, 93, 94, 95] [(82, 1), (82, 2)] τ τ' ∧ mx_rl μ' τ' := by
  have w2 := hg.1.2.1
  have h64 := hg.2.1
  rcases me_tell_s (n := n) hg hl d with ⟨e, h1, h2, h3, h4, h5, h6⟩ | ⟨h1, ⟨h2, h3⟩ | ⟨h2, h3⟩⟩
  · refine ⟨μ 9 e, μ, h3, fun _ _ _ _ => rfl, hg, fun _ _ h => h, Or.inr ⟨rfl, rfl, rfl, fun _ _ _ => rfl⟩, ⟨by rw [if_neg (by omega), Int.add_zero], Int.le_refl _⟩, ⟨h4, h5, h6, ?_⟩, fun _ _ => ⟨rfl, rfl⟩, fun _ _ => ⟨rfl, rfl, rfl, rfl, rfl⟩, fun _ => ⟨rfl, by rw [h2]; rfl⟩, fun τ hr x' y' hx hy => ⟨τ, ?_, fun _ _ _ _ => rfl, hr⟩⟩
    · rcases mx_fi_r (mx_al (μ 5) (μ 6) (μ 7) (μ 8) (μ 9) k o x y) (μ 2 3) (by omega) with ⟨q, -⟩ | ⟨i, q, q2, q3, -⟩
      · rw [show mx_fm μ k o x y = -1 from q] at h2; omega
      · have ei : i = e := by have := q.symm.trans h2; omega
        subst ei
        obtain ⟨a1, a2, a3, a4, a5⟩ := of_decide_eq_true q3
        rw [(hg.1.2.2.2.2.2.2.2.2 i h1 a5).1, a1, a2, a3, a4]
    · exact (mo_told_m hr.1 hl d2 n x' y' (by omega) hx hy).2 e h2
  · obtain ⟨c5, c6, c7, c8, c9, c10, c11, c12, c3, c99, c17, cF⟩ := mx_tln_c hl
    have w9 : (μ 2 9).toNat = (μ 2 9).toNat := rfl
    refine ⟨μ 2 9, mx_tln μ k o x y, h3, cF, mx_tln_gd hg hl h1 h2, fun S W h => mx_tln_Fs hg.1 hl h, Or.inl ?_, ⟨by rw [if_pos h1, c3], by rw [c99]; omega⟩, ⟨w2.1, by rw [c99]; omega, by rw [c10, mx_up_at], by rw [c11, mx_up_at]⟩, fun i hi => ⟨by rw [c10, mx_up_ne (by omega)], by rw [c11, mx_up_ne (by omega)]⟩, fun e he => ⟨by rw [c5, mx_up_ne (by omega)], by rw [c6, mx_up_ne (by omega)], by rw [c7, mx_up_ne (by omega)], by rw [c8, mx_up_ne (by omega)], by rw [c9, mx_up_ne (by omega)]⟩, fun q => absurd h1 q, fun τ hr x' y' hx hy => ?_⟩
    · rw [c17, mx_w_id (by omega) (by omega)]; omega
    · obtain ⟨τ', p1, p2, p3⟩ := (mo_told_m hr.1 hl d2 n x' y' (by omega) hx hy).1 h1
      exact ⟨τ', p1, p2, mx_tln_rl hl hr p2 p3⟩
  · have := hroom h1; omega
/-- what comes, at home in a group -/
theorem ato_b (hg : mx_gd μ) (d d2 : Nat) {k o x y h : Int} (hl : mx_lm μ k o x y) (hh : 0 ≤ h ∧ h < μ 2 9 ∧ μ 10 h.toNat = h) (hcb : mx_cb k o (mx_tc (μ 3) (μ 11) k o x) (mx_yc (μ 11) y) = μ 11 h.toNat) (hal : mx_fm μ k o x y = -1) (hroom : μ 2 3 < 64) (hv : 0 ≤ μ 2 17 ∧ μ 2 17 < 2147483000) :
    ∃ μ' : am_M, me_addTo (d + 1) h k o x y μ n = some (0, μ', n) ∧ mx_Fq [5, 6, 7, 8, 9, 12] [(2, 3), (2, 17)] μ μ' ∧ mx_gd μ' ∧ (∀ S W, mx_Fs μ S W → mx_Fs μ' S W) ∧ mx_vs 1 μ μ' ∧ μ' 2 3 = μ 2 3 + 1 ∧
      ∀ τ : am_M, mx_rl μ τ → ∀ x' y' : Int, (k ≠ 1 → (0 ≤ x' ∧ x' < μ 2 9) ∧ μ 10 x'.toNat = x) → (5 ≤ k → (0 ≤ y' ∧ y' < μ 2 9) ∧ μ 10 y'.toNat = y) → ∃ τ' : am_M, mo_adds (d2 + 2) k o x' y' h τ n = some (h, τ', n) ∧ mx_Fq [89, 90, 91, 92, 93, 95] [(82, 1)] τ τ' ∧ mx_rl μ' τ' := by
  obtain ⟨hW, h64, hM⟩ := hg
  have w2 := hW.2.1
  obtain ⟨c5, c6, c7, c8, c9, c12, c3, c17, c2, cF⟩ := mx_ato_c μ h k o x y
  have cc : ∀ i, i ≠ 2 → i ≠ 5 → i ≠ 6 → i ≠ 7 → i ≠ 8 → i ≠ 9 → i ≠ 12 → (mx_ato μ h k o x y) i = μ i := fun i a1 a2 a3 a4 a5 a6 a7 => cF i (by simp only [List.mem_cons, List.not_mem_nil, or_false, not_or]; omega)
  have F1 : mx_Fq [5, 6, 7, 8, 9, 12] [(2, 3), (2, 17)] μ (mx_ato μ h k o x y) := mx_fq_up (mx_fq_cell (c := 2) (C := [5, 6, 7, 8, 9, 12]) (J := [3, 17]) cF (fun j hj => c2 j (by rintro rfl; exact absurd hj (by decide)) (by rintro rfl; exact absurd hj (by decide)))) rfl
  refine ⟨mx_ato μ h k o x y, me_addTo_s d h k o x y μ n (by omega) hroom ⟨hh.1, by omega⟩, F1, ⟨?_, by rw [c3]; omega, ?_⟩, fun S W hF => ?_, Or.inl (by rw [c17, mx_w_id (by omega) (by omega)]; omega), c3, fun τ hr x' y' hx hy => ?_⟩
  · show mx_W ((mx_ato μ h k o x y) 2 0) ((mx_ato μ h k o x y) 2 3) ((mx_ato μ h k o x y) 2 9) ((mx_ato μ h k o x y) 3) ((mx_ato μ h k o x y) 4) ((mx_ato μ h k o x y) 5) ((mx_ato μ h k o x y) 6) ((mx_ato μ h k o x y) 7) ((mx_ato μ h k o x y) 8) ((mx_ato μ h k o x y) 9) ((mx_ato μ h k o x y) 10) ((mx_ato μ h k o x y) 11)
    rw [c5, c6, c7, c8, c9, c3, c2 0 (by decide) (by decide), c2 9 (by decide) (by decide), cc 3 (by decide) (by decide) (by decide) (by decide) (by decide) (by decide) (by decide), cc 4 (by decide) (by decide) (by decide) (by decide) (by decide) (by decide) (by decide), cc 10 (by decide) (by decide) (by decide) (by decide) (by decide) (by decide) (by decide), cc 11 (by decide) (by decide) (by decide) (by decide) (by decide) (by decide) (by decide)]
    exact mx_W_add hW hl hal (by omega) (Or.inl ⟨rfl, hh⟩) (fun _ _ => rfl) (fun _ _ => rfl) hcb.symm
  · rw [c9, c12, c3, c2 9 (by decide) (by decide)]
    exact mx_Mb_add hM hW.2.2.1 ⟨by omega, hroom⟩ w2.1 (fun _ _ => rfl) (Or.inl ⟨rfl, hh.1, hh.2.1⟩)
  · show mx_Fg ((mx_ato μ h k o x y) 2 3) ((mx_ato μ h k o x y) 5) ((mx_ato μ h k o x y) 6) ((mx_ato μ h k o x y) 7) ((mx_ato μ h k o x y) 8) ((mx_ato μ h k o x y) 9) ((mx_ato μ h k o x y) 11) S W
    rw [c5, c6, c7, c8, c9, c3, cc 11 (by decide) (by decide) (by decide) (by decide) (by decide) (by decide) (by decide)]
    exact mx_Fg_more hW.2.2.1 hF (by omega) (fun e he => ⟨mx_up_ne (by omega), mx_up_ne (by omega), mx_up_ne (by omega), mx_up_ne (by omega), mx_up_ne (by omega)⟩) (fun _ _ => rfl)
  · obtain ⟨l1, l2, l3, l4, l5, l6, l7, l8, l9⟩ := hl
    have ex : mx_xk k x' (μ 10) = x := by
      unfold mx_xk
      by_cases q : k = 1
      · rw [if_pos q, l5 q]
      · rw [if_neg q, (hx q).2]
    have ey : mx_yk k y' (μ 10) = y := by
      unfold mx_yk
      by_cases q : k < 5
      · rw [if_pos q, l7 q]
      · rw [if_neg q, (hy (by omega)).2]
    obtain ⟨τ', p1, p2, p3, p4⟩ := mo_adds_in hr.1 d2 n k o x' y' h (by omega) (fun q => (hx q).1) (fun q => (hy q).1) ⟨hh.1, hh.2.1⟩ w2.2.1
    rw [ex, ey, hh.2.2] at p4
    have F2 : mx_Fq [89, 90, 91, 92, 93, 95] [(82, 1)] τ τ' := mx_fq_up (mx_fq_cell (c := 82) (C := [89, 90, 91, 92, 93, 95]) (J := [1]) p2 (fun j hj => p3 j (by rintro rfl; exact absurd hj (by decide)))) rfl
    refine ⟨τ', p1, F2, ?_, ?_⟩
    · show mx_R ((mx_ato μ h k o x y) 2 3) ((mx_ato μ h k o x y) 2 9) ((mx_ato μ h k o x y) 5) ((mx_ato μ h k o x y) 6) ((mx_ato μ h k o x y) 7) ((mx_ato μ h k o x y) 8) ((mx_ato μ h k o x y) 9) ((mx_ato μ h k o x y) 10) τ'
      rw [c5, c6, c7, c8, c9, c3, c2 9 (by decide) (by decide), cc 10 (by decide) (by decide) (by decide) (by decide) (by decide) (by decide) (by decide)]
      exact p4
    · have := hr.2
      have cT : ∀ i, 84 ≤ i → i ≤ 88 → τ' i = τ i := fun i a b => funext fun j => F2 i j (by simp only [List.mem_cons, List.not_mem_nil, or_false, not_or]; omega) (by simp only [List.mem_cons, List.not_mem_nil, or_false, not_or, Prod.mk.injEq]; omega)
      unfold mx_RT at this ⊢
      rw [c2 0 (by decide) (by decide), cc 3 (by decide) (by decide) (by decide) (by decide) (by decide) (by decide) (by decide), cc 4 (by decide) (by decide) (by decide) (by decide) (by decide) (by decide) (by decide), F2 82 0 (by decide) (by decide), cT 84 (by decide) (by decide), cT 85 (by decide) (by decide), cT 86 (by decide) (by decide), cT 87 (by decide) (by decide), cT 88 (by decide) (by decide)]
      exact this
/-! FIRINGS: what is told first, what comes of it -/
def mx_i4 (μ : am_M) (r e f : Nat) : Int × Int × Int × Int := if r = 1 then (5, μ 6 e, μ 8 f, μ 8 e) else if r = 2 ∨ r = 3 then (3, μ 6 e, μ 7 f, -1) else if r = 5 then (4, μ 6 e, μ 7 f, -1) else if r = 6 then (6, μ 6 e, μ 7 f, μ 8 e) else (-1, -1, -1, -1)
def mx_o4 (μ : am_M) (r e f : Nat) (g : Int) : Int × Int × Int × Int := if r = 0 then (5, μ 6 e, μ 8 e, μ 7 e) else if r = 1 then (5, μ 6 f, μ 7 f, g) else if r = 2 then (μ 5 f, μ 6 f, g, μ 8 f) else if r = 3 ∨ r = 5 then (3, μ 6 f, g, -1) else if r = 6 then (6, μ 6 f, g, μ 8 f) else (-1, -1, -1, -1)
def mx_fb (μ : am_M) (r e f : Nat) : Prop := ((e : Int) < μ 2 3 ∧ μ 9 e ≠ -1) ∧ ((f : Int) < μ 2 3 ∧ μ 9 f ≠ -1) ∧ (r < 7 ∧ mx_tk (μ 5 e) r = true) ∧ (r ≠ 0 → μ 9 f = μ 7 e ∧ mx_fp (μ 5) (μ 6) (μ 7) (μ 8) (μ 11) r e f = true)
theorem mx_fb_k {r e f : Nat} (h : mx_fb μ r e f) : (r = 0 → μ 5 e = 5) ∧ (r = 1 → μ 5 e = 5 ∧ μ 5 f = 5 ∧ mx_hc (mx_yc (μ 11) (μ 8 f)) (μ 6 e) = true) ∧ (r = 2 → μ 5 e = 3 ∧ (μ 5 f = 5 ∨ μ 5 f = 6) ∧ mx_hc (mx_yc (μ 11) (μ 7 f)) (am_w (Int.tdiv (μ 6 e) 2)) = true) ∧
    (r = 3 → μ 5 e = 3 ∧ μ 5 f = 3) ∧ (r = 4 → (μ 5 e = 3 ∨ μ 5 e = 4) ∧ μ 5 f = μ 5 e ∧ μ 6 f = μ 6 e) ∧ (r = 5 → μ 5 e = 4 ∧ μ 5 f = 3 ∧ am_w (Int.tdiv (μ 6 f) 2) = μ 6 e) ∧ (r = 6 → μ 5 e = 6 ∧ μ 5 f = 6) := by
  obtain ⟨-, -, ⟨-, tk⟩, hfp⟩ := h
  unfold mx_tk at tk
  unfold mx_fp at hfp
  refine ⟨?_, ?_, ?_, ?_, ?_, ?_, ?_⟩
  · rintro rfl; simpa using tk
  · rintro rfl
    have := (hfp (by decide)).2
    simp only [Nat.reduceEqDiff, if_true, if_false, or_true, true_or, Bool.and_eq_true, decide_eq_true_eq] at this tk
    exact ⟨tk, this.1, this.2⟩
  · rintro rfl
    have := (hfp (by decide)).2
    simp only [Nat.reduceEqDiff, if_true, if_false, or_true, true_or, or_false, Bool.and_eq_true, Bool.or_eq_true, decide_eq_true_eq] at this tk
    exact ⟨tk, this.1, this.2⟩
  · rintro rfl
    have := (hfp (by decide)).2
    simp only [Nat.reduceEqDiff, if_true, if_false, or_true, true_or, or_false, Bool.and_eq_true, Bool.or_eq_true, decide_eq_true_eq] at this tk
    exact ⟨tk, this.1⟩
  · rintro rfl
    have := (hfp (by decide)).2
    simp only [Nat.reduceEqDiff, if_true, if_false, or_true, true_or, or_false, Bool.and_eq_true, Bool.or_eq_true, decide_eq_true_eq] at this tk
    exact ⟨tk, this.1, this.2⟩
  · rintro rfl
    have := (hfp (by decide)).2
    simp only [Nat.reduceEqDiff, if_true, if_false, or_true, true_or, or_false, Bool.and_eq_true, Bool.or_eq_true, decide_eq_true_eq] at this tk
    exact ⟨tk, this.1, this.2⟩
  · rintro rfl
    have := (hfp (by decide)).2
    simp only [Nat.reduceEqDiff, if_true, if_false, or_true, true_or, or_false, Bool.and_eq_true, Bool.or_eq_true, decide_eq_true_eq] at this tk
    exact ⟨tk, this⟩
theorem mx_or_co : ∀ a : Nat, a < 16 → ∀ b : Nat, b < 16 → am_or (a : Int) (b : Int) = am_or (b : Int) (a : Int) := by decide +kernel
theorem mx_or_as : ∀ a : Nat, a < 16 → ∀ b : Nat, b < 16 → ∀ c : Nat, c < 16 → am_or (a : Int) (am_or (b : Int) (c : Int)) = am_or (am_or (a : Int) (b : Int)) (c : Int) := by decide +kernel
theorem mx_hc_or : ∀ a : Nat, a < 16 → ∀ b : Nat, b < 16 → ∀ c : Nat, c < 4 → mx_hc (a : Int) (c : Int) = true → mx_hc (am_or (a : Int) (b : Int)) (c : Int) = true := by decide +kernel
theorem mx_hc_sh : ∀ c : Nat, c < 4 → mx_hc (am_shl 1 (c : Int)) (c : Int) = true := by decide +kernel
/-- the columns of an expression that is there -/
theorem mx_col (hg : mx_gd μ) (e : Nat) (he : (e : Int) < μ 2 3) (hH : μ 9 e ≠ -1) (hk : μ 5 e ≠ 1) : μ 11 (μ 9 e).toNat = mx_cb (μ 5 e) (μ 6 e) (mx_yc (μ 11) (μ 7 e)) (mx_yc (μ 11) (μ 8 e)) ∧ mx_ft (μ 5 e) (μ 6 e) (mx_yc (μ 11) (μ 7 e)) (mx_yc (μ 11) (μ 8 e)) = true ∧
    (0 ≤ mx_yc (μ 11) (μ 7 e) ∧ mx_yc (μ 11) (μ 7 e) ≤ 15) ∧ (0 ≤ mx_yc (μ 11) (μ 8 e) ∧ mx_yc (μ 11) (μ 8 e) ≤ 15) ∧ (0 ≤ μ 7 e ∧ μ 7 e < μ 2 9 ∧ μ 10 (μ 7 e).toNat = μ 7 e) ∧ (5 ≤ μ 5 e → 0 ≤ μ 8 e ∧ μ 8 e < μ 2 9 ∧ μ 10 (μ 8 e).toNat = μ 8 e) ∧ (μ 5 e < 5 → μ 8 e = -1) ∧ (-1 ≤ μ 8 e) ∧ (0 ≤ μ 9 e ∧ μ 9 e < μ 2 9 ∧ μ 10 (μ 9 e).toNat = μ 9 e) ∧ (mx_kd (μ 5 e) ∧ (0 ≤ μ 6 e ∧ μ 6 e < 8) ∧ (4 ≤ μ 5 e → μ 6 e < 4)) := by
  have c := hg.1.2.2.2.2.2.2.2.2 e he hH
  have s := hg.1.2.2.1.1 e he hH
  have k := hg.1.2.2.2.1 e he
  have kk := k.2.2.2.2.2 hH
  have w2 := hg.1.2.1
  have tcy : mx_tc (μ 3) (μ 11) (μ 5 e) (μ 6 e) (μ 7 e) = mx_yc (μ 11) (μ 7 e) := by unfold mx_tc mx_yc; rw [if_neg hk]
  rw [tcy] at c
  have rg : ∀ v : Int, v = -1 ∨ (0 ≤ v ∧ v < μ 2 9 ∧ μ 10 v.toNat = v) → 0 ≤ mx_yc (μ 11) v ∧ mx_yc (μ 11) v ≤ 15 := fun v hv => by
    unfold mx_yc
    rcases hv with q | q
    · rw [if_neg (by omega)]; exact ⟨by decide, by decide⟩
    · rw [if_pos q.1]; exact (hg.1.2.2.2.2.2.2.2.1 v.toNat (by omega)).2
  refine ⟨c.1, c.2, rg _ s.2.1, rg _ s.2.2, ?_, fun q => ?_, fun q => kk.2.mp q, ?_, s.1, k.1, k.2.1, k.2.2.2.1⟩
  · rcases s.2.1 with q | q
    · exact absurd (kk.1.mpr q) hk
    · exact q
  · rcases s.2.2 with z | z
    · have := kk.2.mpr z; omega
    · exact z
  · rcases s.2.2 with z | z <;> omega
theorem mx_leg_i (hg : mx_gd μ) {r e f : Nat} (h : mx_fb μ r e f) (h0 : r ≠ 0) (h4 : r ≠ 4) : mx_lm μ (mx_i4 μ r e f).1 (mx_i4 μ r e f).2.1 (mx_i4 μ r e f).2.2.1 (mx_i4 μ r e f).2.2.2 := by
  obtain ⟨k0, k1, k2, k3, -, k5, k6⟩ := mx_fb_k h
  obtain ⟨⟨he, hHe⟩, ⟨hf, hHf⟩, ⟨hr, -⟩, hx⟩ := h
  have hx := (hx h0).1
  have ye : mx_yc (μ 11) (μ 7 e) = μ 11 (μ 7 e).toNat ∨ μ 7 e < 0 := by
    unfold mx_yc
    by_cases q : 0 ≤ μ 7 e
    · rw [if_pos q]; exact Or.inl rfl
    · exact Or.inr (by omega)
  unfold mx_lm mx_lg mx_i4
  by_cases r1 : r = 1
  · obtain ⟨a1, a2, a3⟩ := k1 r1
    have ce := mx_col hg e he hHe (by omega)
    have cf := mx_col hg f hf hHf (by omega)
    simp only [if_pos r1]
    have fe := ce.2.1
    unfold mx_ft at fe ⊢
    rw [a1] at fe
    simp only [Int.reduceEq, if_false, Bool.and_eq_true] at fe
    refine ⟨Or.inr (Or.inr (Or.inr (Or.inl rfl))), ce.2.2.2.2.2.2.2.2.2.2.1, fun q => by omega, fun _ => ce.2.2.2.2.2.2.2.2.2.2.2 (by omega), fun q => by omega, fun _ => cf.2.2.2.2.2.1 (by omega), fun q => by omega, fun _ => ce.2.2.2.2.2.1 (by omega), ?_⟩
    simp only [Int.reduceEq, if_false, Bool.and_eq_true]
    refine ⟨?_, fe.2⟩
    unfold mx_tc
    rw [if_neg (by decide)]
    exact a3
  by_cases r2 : r = 2
  · obtain ⟨a1, a2, a3⟩ := k2 r2
    have ce := mx_col hg e he hHe (by omega)
    have cf := mx_col hg f hf hHf (by omega)
    simp only [if_neg r1, if_pos (Or.inl r2 : r = 2 ∨ r = 3)]
    refine ⟨Or.inr (Or.inl rfl), ce.2.2.2.2.2.2.2.2.2.2.1, fun q => by omega, fun q => by omega, fun q => by omega, fun _ => cf.2.2.2.2.1, fun _ => trivial, fun q => by omega, ?_⟩
    unfold mx_ft mx_tc
    rw [if_neg (by decide), if_pos rfl, if_neg (by decide)]
    exact a3
  by_cases r3 : r = 3
  · obtain ⟨a1, a2⟩ := k3 r3
    have ce := mx_col hg e he hHe (by omega)
    have cf := mx_col hg f hf hHf (by omega)
    simp only [if_neg r1, if_pos (Or.inr r3 : r = 2 ∨ r = 3)]
    refine ⟨Or.inr (Or.inl rfl), ce.2.2.2.2.2.2.2.2.2.2.1, fun q => by omega, fun q => by omega, fun q => by omega, fun _ => cf.2.2.2.2.1, fun _ => trivial, fun q => by omega, ?_⟩
    have fe := ce.2.1
    have fc := cf.1
    have e1 : mx_yc (μ 11) (μ 7 e) = mx_yc (μ 11) (μ 7 f) := by
      rcases ye with q | q
      · rw [q, ← hx, fc, a2]; rfl
      · have := ce.2.2.2.2.1; omega
    rw [e1, a1] at fe
    unfold mx_ft mx_tc
    unfold mx_ft at fe
    rw [if_neg (by decide), if_pos rfl] at fe ⊢
    rw [if_neg (by decide)]
    exact fe
  by_cases r5 : r = 5
  · obtain ⟨a1, a2, a3⟩ := k5 r5
    have ce := mx_col hg e he hHe (by omega)
    have cf := mx_col hg f hf hHf (by omega)
    simp only [if_neg r1, if_neg (show ¬ (r = 2 ∨ r = 3) by omega), if_pos r5]
    refine ⟨Or.inr (Or.inr (Or.inl rfl)), ce.2.2.2.2.2.2.2.2.2.2.1, fun q => by omega, fun _ => ce.2.2.2.2.2.2.2.2.2.2.2 (by omega), fun q => by omega, fun _ => cf.2.2.2.2.1, fun _ => trivial, fun q => by omega, ?_⟩
    have fe := ce.2.1
    have fc := cf.1
    have e1 : mx_yc (μ 11) (μ 7 e) = mx_yc (μ 11) (μ 7 f) := by
      rcases ye with q | q
      · rw [q, ← hx, fc, a2]; rfl
      · have := ce.2.2.2.2.1; omega
    rw [e1, a1] at fe
    unfold mx_ft mx_tc
    unfold mx_ft at fe
    rw [if_neg (by decide), if_neg (by decide), if_pos rfl] at fe ⊢
    rw [if_neg (by decide)]
    exact fe
  · have r6 : r = 6 := by omega
    obtain ⟨a1, a2⟩ := k6 r6
    have ce := mx_col hg e he hHe (by omega)
    have cf := mx_col hg f hf hHf (by omega)
    simp only [if_neg r1, if_neg (show ¬ (r = 2 ∨ r = 3) by omega), if_neg r5, if_pos r6]
    refine ⟨Or.inr (Or.inr (Or.inr (Or.inr rfl))), ce.2.2.2.2.2.2.2.2.2.2.1, fun q => by omega, fun _ => ce.2.2.2.2.2.2.2.2.2.2.2 (by omega), fun q => by omega, fun _ => cf.2.2.2.2.1, fun q => by omega, fun _ => ce.2.2.2.2.2.1 (by omega), ?_⟩
    have fe := ce.2.1
    have fc := cf.1
    have e1 : mx_yc (μ 11) (μ 7 e) = mx_yc (μ 11) (μ 7 f) := by
      rcases ye with q | q
      · rw [q, ← hx, fc, a2]; rfl
      · have := ce.2.2.2.2.1; omega
    rw [e1, a1] at fe
    unfold mx_ft mx_tc
    unfold mx_ft at fe
    rw [if_neg (by decide), if_neg (by decide), if_neg (by decide)] at fe ⊢
    rw [if_neg (by decide)]
    exact fe
end
