/-! a FIRING is fired: both sides -/
theorem mx_w7r (e r : Nat) (he : e < 64) (hr : r < 7) : am_w (am_w ((e : Int) * 7) + (r : Int)) = ((7 * e + r : Nat) : Int) := by
  rw [mx_w_id (z := (e : Int) * 7) (by omega) (by omega), mx_w_id (by omega) (by omega)]
  omega
def mx_wh (τ : am_M) (a b c d : Int) : am_M := am_wr (am_wr (am_wr (am_wr τ 137 0 a) 137 1 b) 137 2 c) 137 3 d
theorem mx_wh_f {τ : am_M} {a b c d : Int} : mx_Fr [137] τ (mx_wh τ a b c d) := by
  unfold mx_wh
  exact mx_fr_wr (mx_fr_wr (mx_fr_wr (mx_fr_wr mx_fr_rf (by decide)) (by decide)) (by decide)) (by decide)
theorem mx_wh_i {τ : am_M} {a b c d : Int} : mx_wh τ a b c d 137 0 = a ∧ mx_wh τ a b c d 137 1 = b ∧ mx_wh τ a b c d 137 2 = c ∧ mx_wh τ a b c d 137 3 = d := by
  unfold mx_wh
  refine ⟨?_, ?_, ?_, ?_⟩
  · rw [mx_wr_no (by omega), mx_wr_no (by omega), mx_wr_no (by omega), mx_wr_at]
  · rw [mx_wr_no (by omega), mx_wr_no (by omega), mx_wr_at]
  · rw [mx_wr_no (by omega), mx_wr_at]
  · rw [mx_wr_at]
theorem mx_ne0 {r : Nat} (h : r ≠ 0) : ¬ ((r : Int) = 0) := by omega
theorem mx_eq0 {r : Nat} (h : r = 0) : (r : Int) = 0 := by omega
theorem mx_ne1 {r : Nat} (h : r ≠ 1) : ¬ ((r : Int) = 1) := by omega
theorem mx_eq1 {r : Nat} (h : r = 1) : (r : Int) = 1 := by omega
theorem mx_ne2 {r : Nat} (h : r ≠ 2) : ¬ ((r : Int) = 2) := by omega
theorem mx_eq2 {r : Nat} (h : r = 2) : (r : Int) = 2 := by omega
theorem mx_ne3 {r : Nat} (h : r ≠ 3) : ¬ ((r : Int) = 3) := by omega
theorem mx_eq3 {r : Nat} (h : r = 3) : (r : Int) = 3 := by omega
theorem mx_ne4 {r : Nat} (h : r ≠ 4) : ¬ ((r : Int) = 4) := by omega
theorem mx_eq4 {r : Nat} (h : r = 4) : (r : Int) = 4 := by omega
theorem mx_ne5 {r : Nat} (h : r ≠ 5) : ¬ ((r : Int) = 5) := by omega
theorem mx_eq5 {r : Nat} (h : r = 5) : (r : Int) = 5 := by omega
theorem mx_ne6 {r : Nat} (h : r ≠ 6) : ¬ ((r : Int) = 6) := by omega
theorem mx_eq6 {r : Nat} (h : r = 6) : (r : Int) = 6 := by omega
theorem mx_is6 {r : Nat} (h : r < 7) (h0 : r ≠ 0) (h1 : ¬ r = 1) (h2 : ¬ r = 2) (h3 : ¬ r = 3) (h4 : r ≠ 4) (h5 : ¬ r = 5) : r = 6 := by omega
theorem mx_no23 {r : Nat} (h2 : ¬ r = 2) (h3 : ¬ r = 3) : ¬ (r = 2 ∨ r = 3) := by omega
theorem mx_no35 {r : Nat} (h2 : ¬ r = 3) (h3 : ¬ r = 5) : ¬ (r = 3 ∨ r = 5) := by omega
theorem mx_ne_1 {k j : Int} (h : k = j) (hj : j ≠ 1) : k ≠ 1 := by omega
theorem mx_ge_5 {k j : Int} (h : k = j) (hj : 5 ≤ j) : 5 ≤ k := by omega
theorem mx_ge_56 {k : Int} (h : k = 5 ∨ k = 6) : 5 ≤ k ∧ k ≠ 1 := by omega
section
variable {n : Nat} {μ τ : am_M} {r e f : Nat}
theorem mo_says2_s (d : Nat) (a b c e : Int) : mo_says2 (d + 1) a b c e τ n = some (0, mx_wh τ a b c e, n) := by
  rw [mo_says2_e, ix_137 (by decide) (by decide), mx_m, ix_137 (by decide) (by decide), mx_m, ix_137 (by decide) (by decide), mx_m, ix_137 (by decide) (by decide), mx_m]
  rfl
theorem mx_rl_wh {a b c d : Int} (h : mx_rl μ τ) : mx_rl μ (mx_wh τ a b c d) := mx_rl_fr h (fun i j h1 h2 => congrFun (mx_wh_f i (by simp only [List.mem_cons, List.not_mem_nil, or_false]; omega)) j) (fun j _ => congrFun (mx_wh_f 82 (by decide)) j)
theorem mo_alike_m (hr : mx_rl μ τ) {k o x y : Int} (hl : mx_lm μ k o x y) (d : Nat) (x' y' : Int) (hx : k ≠ 1 → (0 ≤ x' ∧ x' < μ 2 9) ∧ μ 10 x'.toNat = x) (hy : 5 ≤ k → (0 ≤ y' ∧ y' < μ 2 9) ∧ μ 10 y'.toNat = y) : mo_alike (d + 2) k o x' y' τ n = some (mx_fm μ k o x y, τ, n) := by
  have := mo_alike_s hr.1 d n k o x' y' (fun q => (hx q).1) (fun q => (hy q).1)
  have ex : mx_xk k x' (μ 10) = x := by
    unfold mx_xk
    by_cases q : k = 1
    · rw [if_pos q, hl.2.2.2.2.1 q]
    · rw [if_neg q, (hx q).2]
  have ey : mx_yk k y' (μ 10) = y := by
    unfold mx_yk
    by_cases q : k < 5
    · rw [if_pos q, hl.2.2.2.2.2.2.1 q]
    · rw [if_neg q, (hy (by omega)).2]
  rw [ex, ey] at this
  exact this
theorem mo_bracket_s (hg : mx_gd μ) (hr : mx_rl μ τ) (h : mx_fb μ r e f) (h0 : r ≠ 0) (h4 : r ≠ 4) (d : Nat) (t1 : τ 82 65 = e) (t2 : τ 82 66 = r) (t3 : τ 82 67 = f) :
    ∃ x' y' : Int, mo_bracket (d + 2) τ n = some (0, mx_wh τ (mx_i4 μ r e f).1 (mx_i4 μ r e f).2.1 x' y', n) ∧ ((0 ≤ x' ∧ x' < μ 2 9) ∧ μ 10 x'.toNat = (mx_i4 μ r e f).2.2.1) ∧ (5 ≤ (mx_i4 μ r e f).1 → (0 ≤ y' ∧ y' < μ 2 9) ∧ μ 10 y'.toNat = (mx_i4 μ r e f).2.2.2) := by
  have h64 := hg.2.1
  have E : (0 : Int) ≤ e ∧ (e : Int) < 144 := by have := h.1.1; omega
  have F : (0 : Int) ≤ f ∧ (f : Int) < 144 := by have := h.2.1.1; omega
  obtain ⟨k0, k1, k2, k3, -, k5, k6⟩ := mx_fb_k h
  obtain ⟨⟨he, hHe⟩, ⟨hf, hHf⟩, ⟨hr7, -⟩, -⟩ := h
  obtain ⟨a1, a2, a3, a4⟩ := hr.1.1 e he
  obtain ⟨b1, b2, b3, b4⟩ := hr.1.1 f hf
  obtain ⟨-, x2, -, x4, -⟩ := a4 hHe
  obtain ⟨-, y2, -, y4, -⟩ := b4 hHf
  rw [mo_bracket_e, t1, t2, t3]
  simp only [mo_says2_s, Option.bind_some, Int.toNat_natCast, a2]
  unfold mx_i4
  by_cases r1 : r = 1
  · obtain ⟨z1, z2, -⟩ := k1 r1
    have p := y4 (mx_ge_5 z2 (by decide))
    have q := x4 (mx_ge_5 z1 (by decide))
    rw [if_pos (mx_eq1 r1), ix_90 E.1 E.2, ix_92 F.1 F.2, ix_92 E.1 E.2]
    simp only [if_pos r1]
    exact ⟨_, _, rfl, ⟨⟨p.1, p.2.1⟩, p.2.2⟩, fun _ => ⟨⟨q.1, q.2.1⟩, q.2.2⟩⟩
  rw [if_neg (mx_ne1 r1)]
  clear k1
  by_cases r2 : r = 2
  · obtain ⟨z1, z2, -⟩ := k2 r2
    have p := y2 (mx_ge_56 z2).2
    rw [if_pos (mx_eq2 r2), ix_90 E.1 E.2, ix_91 F.1 F.2, ix_91 F.1 F.2]
    simp only [if_neg r1, if_pos (Or.inl r2 : r = 2 ∨ r = 3)]
    exact ⟨_, _, rfl, ⟨⟨p.1, p.2.1⟩, p.2.2⟩, fun q => absurd q (by decide)⟩
  rw [if_neg (mx_ne2 r2)]
  clear k2
  by_cases r3 : r = 3
  · obtain ⟨z1, z2⟩ := k3 r3
    have p := y2 (mx_ne_1 z2 (by decide))
    rw [if_pos (mx_eq3 r3), ix_90 E.1 E.2, ix_91 F.1 F.2, ix_91 F.1 F.2]
    simp only [if_neg r1, if_pos (Or.inr r3 : r = 2 ∨ r = 3)]
    exact ⟨_, _, rfl, ⟨⟨p.1, p.2.1⟩, p.2.2⟩, fun q => absurd q (by decide)⟩
  rw [if_neg (mx_ne3 r3), if_neg (mx_ne4 h4)]
  clear k3
  by_cases r5 : r = 5
  · obtain ⟨z1, z2, -⟩ := k5 r5
    have p := y2 (mx_ne_1 z2 (by decide))
    rw [if_pos (mx_eq5 r5), ix_90 E.1 E.2, ix_91 F.1 F.2, ix_91 F.1 F.2]
    simp only [if_neg r1, if_neg (mx_no23 r2 r3), if_pos r5]
    exact ⟨_, _, rfl, ⟨⟨p.1, p.2.1⟩, p.2.2⟩, fun q => absurd q (by decide)⟩
  · have r6 : r = 6 := mx_is6 hr7 h0 r1 r2 r3 h4 r5
    obtain ⟨z1, z2⟩ := k6 r6
    have p := y2 (mx_ne_1 z2 (by decide))
    have q := x4 (mx_ge_5 z1 (by decide))
    rw [if_neg (mx_ne5 r5), ix_90 E.1 E.2, ix_91 F.1 F.2, ix_92 E.1 E.2]
    simp only [if_neg r1, if_neg (mx_no23 r2 r3), if_neg r5, if_pos r6]
    exact ⟨_, _, rfl, ⟨⟨p.1, p.2.1⟩, p.2.2⟩, fun _ => ⟨⟨q.1, q.2.1⟩, q.2.2⟩⟩
theorem mo_comes_s (hg : mx_gd μ) (hr : mx_rl μ τ) (h : mx_fb μ r e f) (h4 : r ≠ 4) (d : Nat) (g : Int) (hgi : r ≠ 0 → 0 ≤ g ∧ g < μ 2 9 ∧ μ 10 g.toNat = g) (t1 : τ 82 65 = e) (t2 : τ 82 66 = r) (t3 : r ≠ 0 → τ 82 67 = f) :
    ∃ x' y' : Int, mo_comes (d + 2) g τ n = some (0, mx_wh τ (mx_o4 μ r e f g).1 (mx_o4 μ r e f g).2.1 x' y', n) ∧ ((0 ≤ x' ∧ x' < μ 2 9) ∧ μ 10 x'.toNat = (mx_o4 μ r e f g).2.2.1) ∧ (5 ≤ (mx_o4 μ r e f g).1 → (0 ≤ y' ∧ y' < μ 2 9) ∧ μ 10 y'.toNat = (mx_o4 μ r e f g).2.2.2) := by
  have h64 := hg.2.1
  have E : (0 : Int) ≤ e ∧ (e : Int) < 144 := by have := h.1.1; omega
  have F : (0 : Int) ≤ f ∧ (f : Int) < 144 := by have := h.2.1.1; omega
  obtain ⟨k0, k1, k2, k3, -, k5, k6⟩ := mx_fb_k h
  obtain ⟨⟨he, hHe⟩, ⟨hf, hHf⟩, ⟨hr7, -⟩, -⟩ := h
  obtain ⟨a1, a2, a3, a4⟩ := hr.1.1 e he
  obtain ⟨b1, b2, b3, b4⟩ := hr.1.1 f hf
  obtain ⟨-, x2, -, x4, -⟩ := a4 hHe
  obtain ⟨-, y2, -, y4, -⟩ := b4 hHf
  rw [mo_comes_e]
  simp only [mo_says2_s, Option.bind_some]
  rw [t1, t2]
  unfold mx_o4
  by_cases r0 : r = 0
  · have z1 := k0 r0
    have p := x2 (mx_ne_1 z1 (by decide))
    have q := x4 (mx_ge_5 z1 (by decide))
    rw [if_pos (mx_eq0 r0), ix_90 E.1 E.2, ix_92 E.1 E.2, ix_91 E.1 E.2, Int.toNat_natCast, a2]
    simp only [if_pos r0]
    exact ⟨_, _, rfl, ⟨⟨q.1, q.2.1⟩, q.2.2⟩, fun _ => ⟨⟨p.1, p.2.1⟩, p.2.2⟩⟩
  obtain ⟨g1, g2, g3⟩ := hgi r0
  rw [t3 r0]
  simp only [Int.toNat_natCast, b1, b2]
  rw [if_neg (mx_ne0 r0)]
  clear k0 hgi t3
  by_cases r1 : r = 1
  · obtain ⟨z1, z2, -⟩ := k1 r1
    have p := y2 (mx_ne_1 z2 (by decide))
    rw [if_pos (mx_eq1 r1), ix_90 F.1 F.2, ix_91 F.1 F.2]
    simp only [if_neg r0, if_pos r1]
    exact ⟨_, _, rfl, ⟨⟨p.1, p.2.1⟩, p.2.2⟩, fun _ => ⟨⟨g1, g2⟩, g3⟩⟩
  rw [if_neg (mx_ne1 r1)]
  clear k1
  by_cases r2 : r = 2
  · obtain ⟨z1, z2, -⟩ := k2 r2
    have q := y4 (mx_ge_56 z2).1
    rw [if_pos (mx_eq2 r2), ix_89 F.1 F.2, ix_90 F.1 F.2, ix_92 F.1 F.2]
    simp only [if_neg r0, if_neg r1, if_pos r2]
    exact ⟨_, _, rfl, ⟨⟨g1, g2⟩, g3⟩, fun _ => ⟨⟨q.1, q.2.1⟩, q.2.2⟩⟩
  rw [if_neg (mx_ne2 r2)]
  clear k2
  by_cases r3 : r = 3
  · rw [if_pos (mx_eq3 r3), ix_90 F.1 F.2]
    simp only [if_neg r0, if_neg r1, if_neg r2, if_pos (Or.inl r3 : r = 3 ∨ r = 5)]
    exact ⟨_, _, rfl, ⟨⟨g1, g2⟩, g3⟩, fun q => absurd q (by decide)⟩
  rw [if_neg (mx_ne3 r3), if_neg (mx_ne4 h4)]
  clear k3
  by_cases r5 : r = 5
  · rw [if_pos (mx_eq5 r5), ix_90 F.1 F.2]
    simp only [if_neg r0, if_neg r1, if_neg r2, if_pos (Or.inr r5 : r = 3 ∨ r = 5)]
    exact ⟨_, _, rfl, ⟨⟨g1, g2⟩, g3⟩, fun q => absurd q (by decide)⟩
  · have r6 : r = 6 := mx_is6 hr7 r0 r1 r2 r3 h4 r5
    obtain ⟨z1, z2⟩ := k6 r6
    have q := y4 (mx_ge_5 z2 (by decide))
    rw [if_neg (mx_ne5 r5), if_pos (mx_eq6 r6), ix_90 F.1 F.2, ix_92 F.1 F.2]
    simp only [if_neg r0, if_neg r1, if_neg r2, if_neg (mx_no35 r3 r5), if_pos r6]
    exact ⟨_, _, rfl, ⟨⟨g1, g2⟩, g3⟩, fun _ => ⟨⟨q.1, q.2.1⟩, q.2.2⟩⟩
theorem mx_i4_1 (h : mx_fb μ r e f) (h0 : r ≠ 0) (h4 : r ≠ 4) : (mx_i4 μ r e f).1 ≠ 1 := by
  have hr := h.2.2.1.1
  unfold mx_i4
  have : r = 1 ∨ r = 2 ∨ r = 3 ∨ r = 5 ∨ r = 6 := by omega
  rcases this with q | q | q | q | q <;> subst q <;> simp
/-- a group that is there already -/
theorem mx_old_g (hg : mx_gd μ) (h : mx_fb μ r e f) (h0 : r ≠ 0) (h4 : r ≠ 4) (hn : mx_fmt μ (mx_i4 μ r e f) ≠ -1) : 0 ≤ μ 9 (mx_fmt μ (mx_i4 μ r e f)).toNat ∧ μ 9 (mx_fmt μ (mx_i4 μ r e f)).toNat < μ 2 9 ∧ μ 10 (μ 9 (mx_fmt μ (mx_i4 μ r e f)).toNat).toNat = μ 9 (mx_fmt μ (mx_i4 μ r e f)).toNat ∧
    μ 11 (μ 9 (mx_fmt μ (mx_i4 μ r e f)).toNat).toNat = mx_cb (mx_i4 μ r e f).1 (mx_i4 μ r e f).2.1 (mx_yc (μ 11) (mx_i4 μ r e f).2.2.1) (mx_yc (μ 11) (mx_i4 μ r e f).2.2.2) := by
  have w2 := hg.1.2.1
  unfold mx_fmt at hn ⊢
  rcases mx_fi_r (mx_al (μ 5) (μ 6) (μ 7) (μ 8) (μ 9) (mx_i4 μ r e f).1 (mx_i4 μ r e f).2.1 (mx_i4 μ r e f).2.2.1 (mx_i4 μ r e f).2.2.2) (μ 2 3) (by omega) with ⟨q, -⟩ | ⟨i, q, q2, q3, -⟩
  · exact absurd q hn
  · obtain ⟨a1, a2, a3, a4, a5⟩ := of_decide_eq_true q3
    have c := mx_col hg i q2 a5 (by rw [a1]; exact mx_i4_1 h h0 h4)
    show 0 ≤ μ 9 (mx_fi _ _ _).toNat ∧ μ 9 (mx_fi _ _ _).toNat < _ ∧ μ 10 (μ 9 (mx_fi _ _ _).toNat).toNat = μ 9 (mx_fi _ _ _).toNat ∧ μ 11 (μ 9 (mx_fi _ _ _).toNat).toNat = _
    rw [q, Int.toNat_natCast, ← a1, ← a2, ← a3, ← a4]
    exact ⟨c.2.2.2.2.2.2.2.2.1.1, c.2.2.2.2.2.2.2.2.1.2.1, c.2.2.2.2.2.2.2.2.1.2.2, c.1⟩
theorem mo_news_s (hg : mx_gd μ) (hr : mx_rl μ τ) (h : mx_fb μ r e f) (d : Nat) (t1 : τ 82 65 = e) (t2 : τ 82 66 = r) (t3 : τ 82 67 = if r = 0 then -1 else (f : Int)) : ∃ τ' : am_M, mo_news (d + 4) τ n = some (mx_nn μ r e f, τ', n) ∧ mx_Fr [137] τ τ' := by
  have h64 := hg.2.1
  have hr7 := h.2.2.1.1
  rw [mo_news_e, t2]
  unfold mx_nn
  by_cases r4 : r = 4
  · rw [if_pos (by omega), if_pos r4]
    exact ⟨τ, rfl, mx_fr_rf⟩
  rw [if_neg (by omega), if_neg r4]
  -- what comes
  have l79 : ∀ (τ1 : am_M) (g : Int), mx_rl μ τ1 → mx_Fr [137] τ τ1 → (r ≠ 0 → 0 ≤ g ∧ g < μ 2 9 ∧ μ 10 g.toNat = g ∧ μ 11 g.toNat = mx_cb (mx_i4 μ r e f).1 (mx_i4 μ r e f).2.1 (mx_yc (μ 11) (mx_i4 μ r e f).2.2.1) (mx_yc (μ 11) (mx_i4 μ r e f).2.2.2)) →
      ∃ τ' : am_M, mo_news_79 (d + 3) g τ1 n = some (if mx_fmt μ (mx_o4 μ r e f g) = -1 then 1 else 0, τ', n) ∧ mx_Fr [137] τ τ' := by
    intro τ1 g hr1 hF hgi
    have s82 : τ1 82 = τ 82 := hF 82 (by decide)
    obtain ⟨x', y', p1, p2, p3⟩ := mo_comes_s (n := n) hg hr1 h r4 (d + 1) g (fun q => ⟨(hgi q).1, (hgi q).2.1, (hgi q).2.2.1⟩) (by rw [s82]; exact t1) (by rw [s82]; exact t2) (fun q => by rw [s82, t3, if_neg q])
    have lo := (mx_leg_o hg h r4 (Int.le_refl _) (fun _ _ => rfl) (fun _ _ => rfl) hgi).1
    obtain ⟨i0, i1, i2, i3⟩ := mx_wh_i (τ := τ1) (a := (mx_o4 μ r e f g).1) (b := (mx_o4 μ r e f g).2.1) (c := x') (d := y')
    refine ⟨mx_wh τ1 (mx_o4 μ r e f g).1 (mx_o4 μ r e f g).2.1 x' y', ?_, mx_fr_tr hF mx_wh_f⟩
    rw [mo_news_79_e, p1, Option.bind_some, ix_137 (by decide) (by decide), ix_137 (by decide) (by decide), ix_137 (by decide) (by decide), ix_137 (by decide) (by decide)]
    dsimp only
    rw [i0, i1, i2, i3, mo_alike_m (mx_rl_wh hr1) lo (d + 1) x' y' (fun _ => p2) p3, Option.bind_some]
    show (if mx_fmt μ (mx_o4 μ r e f g) = -1 then _ else _) = _
    split <;> rfl
  by_cases r0 : r = 0
  · rw [if_neg (by omega), if_pos r0]
    obtain ⟨τ', q1, q2⟩ := l79 τ 0 hr mx_fr_rf (fun q => absurd r0 q)
    refine ⟨τ', ?_, q2⟩
    rw [q1]
    subst r0; rfl
  · rw [if_pos (by omega), if_neg r0]
    obtain ⟨x', y', p1, p2, p3⟩ := mo_bracket_s (n := n) hg hr h r0 r4 (d + 1) t1 t2 (by rw [t3, if_neg r0])
    have li := mx_leg_i hg h r0 r4
    obtain ⟨i0, i1, i2, i3⟩ := mx_wh_i (τ := τ) (a := (mx_i4 μ r e f).1) (b := (mx_i4 μ r e f).2.1) (c := x') (d := y')
    rw [p1, Option.bind_some, ix_137 (by decide) (by decide), ix_137 (by decide) (by decide), ix_137 (by decide) (by decide), ix_137 (by decide) (by decide)]
    dsimp only
    rw [i0, i1, i2, i3, mo_alike_m (mx_rl_wh hr) li (d + 1) x' y' (fun _ => p2) p3, Option.bind_some]
    dsimp only
    show ∃ τ', (if mx_fmt μ (mx_i4 μ r e f) = -1 then _ else _) = _ ∧ _
    by_cases q : mx_fmt μ (mx_i4 μ r e f) = -1
    · rw [if_pos q, if_pos q]
      exact ⟨_, rfl, mx_wh_f⟩
    · rw [if_neg q, if_neg q]
      have og := mx_old_g hg h r0 r4 q
      have fr := mx_fmt_r hg (mx_i4 μ r e f)
      have fr' : 0 ≤ mx_fmt μ (mx_i4 μ r e f) ∧ mx_fmt μ (mx_i4 μ r e f) < μ 2 3 ∧ μ 9 (mx_fmt μ (mx_i4 μ r e f)).toNat ≠ -1 := by rcases fr with z | z; exact absurd z q; exact z
      have hin := ((hr.1.1 (mx_fmt μ (mx_i4 μ r e f)).toNat (by omega)).2.2.2 fr'.2.2).1
      show ∃ τ', (if mx_fmt μ (mx_i4 μ r e f) = -1 then _ else am_ix 93 (mx_fmt μ (mx_i4 μ r e f)) _) = _ ∧ _
      rw [if_neg q, ix_93 (by omega) (by omega)]
      have ew : (mx_wh τ (mx_i4 μ r e f).1 (mx_i4 μ r e f).2.1 x' y') 93 = τ 93 := mx_wh_f 93 (by decide)
      show ∃ τ', ((mo_root (d + 3) ((mx_wh τ (mx_i4 μ r e f).1 (mx_i4 μ r e f).2.1 x' y') 93 (mx_fmt μ (mx_i4 μ r e f)).toNat) (mx_wh τ (mx_i4 μ r e f).1 (mx_i4 μ r e f).2.1 x' y') n).bind fun q3 => mo_news_79 (d + 3) q3.1 q3.2.1 q3.2.2) = _ ∧ _
      rw [ew, mo_root_r (mx_rl_wh hr).1 (d + 2) n _ hin.1 hin.2.1, Option.bind_some, hin.2.2]
      exact l79 _ _ (mx_rl_wh hr) mx_wh_f (fun _ => og)
theorem mx_fb_mu {μ' : am_M} (hg : mx_gd μ) (h : mx_fb μ r e f) (hm : μ 2 3 ≤ μ' 2 3) (hC : ∀ i : Nat, (i : Int) < μ 2 9 → μ' 11 i = μ 11 i) (hE : ∀ e : Nat, (e : Int) < μ 2 3 → μ' 5 e = μ 5 e ∧ μ' 6 e = μ 6 e ∧ μ' 7 e = μ 7 e ∧ μ' 8 e = μ 8 e ∧ μ' 9 e = μ 9 e) :
    mx_fb μ' r e f ∧ (∀ g, mx_o4 μ' r e f g = mx_o4 μ r e f g) ∧ mx_i4 μ' r e f = mx_i4 μ r e f := by
  obtain ⟨⟨he, hHe⟩, ⟨hf, hHf⟩, ⟨hr7, tk⟩, hx⟩ := h
  obtain ⟨a5, a6, a7, a8, a9⟩ := hE e he
  obtain ⟨b5, b6, b7, b8, b9⟩ := hE f hf
  have s := hg.1.2.2.1.1 f hf hHf
  have yc : ∀ v : Int, v = -1 ∨ (0 ≤ v ∧ v < μ 2 9 ∧ μ 10 v.toNat = v) → mx_yc (μ' 11) v = mx_yc (μ 11) v := fun v hv => by
    unfold mx_yc
    rcases hv with q | q
    · rw [if_neg (by omega), if_neg (by omega)]
    · rw [if_pos q.1, if_pos q.1, hC _ (by omega)]
  refine ⟨⟨⟨by omega, by rw [a9]; exact hHe⟩, ⟨by omega, by rw [b9]; exact hHf⟩, ⟨hr7, by rw [a5]; exact tk⟩, fun q => ?_⟩, fun g => ?_, ?_⟩
  · obtain ⟨h1, h2⟩ := hx q
    refine ⟨by rw [b9, a7]; exact h1, ?_⟩
    unfold mx_fp at h2 ⊢
    rw [a5, a6, b5, b6, b7, b8, yc _ s.2.1, yc _ s.2.2]
    exact h2
  · unfold mx_o4
    rw [a6, a7, a8, b5, b6, b7, b8]
  · unfold mx_i4
    rw [a6, a8, b7, b8]
end
