/-! EXPLORE: the calls -/
section
variable {n : Nat} {μ : am_M} {r e f : Nat}
theorem mx_FsR (h : mx_fb μ r e f) : True := trivial
theorem mx_up1 : (1 : Int) % 2 = 1 := by decide
/-- one FIRING -/
theorem fire_b (hg : mx_gd μ) {W : Nat → Int} (hF : mx_Fs μ (μ 13) W) (h : mx_fb μ r e f) (h1 : μ 28 1 = e) (h2 : μ 28 2 = r) (h3 : μ 28 3 = if r = 0 then -1 else (f : Int)) (hroom : μ 2 3 + mx_nn μ r e f ≤ 64) (hv : 0 ≤ μ 2 17 ∧ μ 2 17 < 2147482000) (d : Nat) :
    ∃ μ' : am_M, fi_fire (d + 6) μ n = some (0, μ', n) ∧ mx_Fq [5, 6, 7, 8, 9, 10, 11, 12, 13, 14] [(28, 4), (28, 5), (28, 6), (28, 7), (28, 8), (28, 9), (28, 10), (28, 11), (2, 3), (2, 9), (2, 17)] μ μ' ∧ mx_gd μ' ∧ mx_Fs μ' (μ' 13) (mx_up W (mx_ixf e r f) 1) ∧ mx_vs 2 μ μ' ∧ μ 2 3 ≤ μ' 2 3 ∧ μ' 14 = mx_up (μ 14) r (am_w (μ 14 r + 1)) ∧
      ∀ τ : am_M, mx_rl μ τ → τ 82 65 = e → τ 82 66 = r → τ 82 67 = (if r = 0 then -1 else (f : Int)) → ∃ τ' : am_M, mo_fires (d + 6) τ n = some (0, τ', n) ∧ mx_Fq [89, 90, 91, 92, 93, 94, 95, 96, 97, 137] [(82, 1), (82, 2), (82, 3)] τ τ' ∧ mx_rl μ' τ' ∧ τ' 96 = mx_up (τ 96) (mx_ixf e r f) 1 ∧ τ' 97 = mx_up (τ 97) r (am_w (τ 97 r + 1)) ∧ τ' 82 3 = am_w (τ 82 3 + 1) := by
  have h64 := hg.2.1
  have w2 := hg.1.2.1
  have he := h.1.1
  have hf := h.2.1.1
  have hr := h.2.2.1.1
  have he64 : e < 64 := by omega
  have hf64 : f < 64 := by omega
  have E : (0 : Int) ≤ e ∧ (e : Int) < 64 ∧ (e : Int) < 144 := ⟨by omega, by omega, by omega⟩
  have Fb : (0 : Int) ≤ f ∧ (f : Int) < 64 ∧ (f : Int) < 144 := ⟨by omega, by omega, by omega⟩
  have R : (0 : Int) ≤ r ∧ (r : Int) < 7 := ⟨by omega, by omega⟩
  have AT : (0 : Int) ≤ ((7 * e + r : Nat) : Int) ∧ ((7 * e + r : Nat) : Int) < 448 := ⟨by omega, by omega⟩
  obtain ⟨μ1, p1, p2, p3, p4⟩ := fi_shape_s (n := n) (d + 3) r e f hr he64 hf64 h1 h2 h3
  have c1 : ∀ i, i ≠ 28 → μ1 i = μ i := fun i q => funext fun j => p2 i j (by simp) (by simp only [List.mem_cons, List.not_mem_nil, or_false, Prod.mk.injEq]; omega)
  have g1 : μ1 28 1 = e := by rw [p2 28 1 (by decide) (by decide)]; exact h1
  have g2 : μ1 28 2 = r := by rw [p2 28 2 (by decide) (by decide)]; exact h2
  have g3 : μ1 28 3 = if r = 0 then -1 else (f : Int) := by rw [p2 28 3 (by decide) (by decide)]; exact h3
  obtain ⟨μ2, hμ2⟩ : ∃ μ2, μ2 = am_wr (am_wr μ1 13 (7 * e + r) (am_lor (μ 13 (7 * e + r)) (if r = 0 then 1 else am_lshl 1 (f : Int)))) 14 r (am_w (μ 14 r + 1)) := ⟨_, rfl⟩
  have c2 : ∀ i, i ≠ 28 → i ≠ 13 → i ≠ 14 → μ2 i = μ i := fun i a b c => by rw [hμ2, mx_wr_ne c, mx_wr_ne b, c1 i a]
  have c28 : μ2 28 = μ1 28 := by rw [hμ2, mx_wr_ne (by decide), mx_wr_ne (by decide)]
  have c13 : μ2 13 = mx_up (μ 13) (7 * e + r) (am_lor (μ 13 (7 * e + r)) (if r = 0 then 1 else am_lshl 1 (f : Int))) := by rw [hμ2, mx_wr_ne (by decide), mx_wr_up, c1 13 (by decide)]
  have c14 : μ2 14 = mx_up (μ 14) r (am_w (μ 14 r + 1)) := by rw [hμ2, mx_wr_up, mx_wr_ne (by decide), c1 14 (by decide)]
  have F2 : mx_Fq [13, 14] [(28, 4), (28, 5), (28, 6), (28, 7), (28, 8), (28, 9), (28, 10), (28, 11)] μ μ2 := by rw [hμ2]; exact mx_fq_wc (mx_fq_wc (mx_fq_up p2 rfl) rfl) rfl
  have gd2 : mx_gd μ2 := mx_gd_fr hg (fun i j a b _ => by rw [c2 i (by omega) (by omega) (by omega)])
  have Fs2 : mx_Fs μ2 (μ2 13) (mx_up W (mx_ixf e r f) 1) := by rw [c13]; exact mx_Fs_mu (mx_Fs_fire hF he hf h64 hr) (fun i j a b _ => by rw [c2 i (by omega) (by omega) (by omega)])
  obtain ⟨fb2, o42, i42⟩ := mx_fb_mu (μ' := μ2) hg h (by rw [c2 2 (by decide) (by decide) (by decide)]; exact Int.le_refl _) (fun i _ => by rw [c2 11 (by decide) (by decide) (by decide)]) (fun x _ => by rw [c2 5 (by decide) (by decide) (by decide), c2 6 (by decide) (by decide) (by decide), c2 7 (by decide) (by decide) (by decide), c2 8 (by decide) (by decide) (by decide), c2 9 (by decide) (by decide) (by decide)]; exact ⟨rfl, rfl, rfl, rfl, rfl⟩)
  have s12 : mx_shp μ2 r e f μ2 := by unfold mx_shp; rw [c28, i42, o42]; exact ⟨p3, p4⟩
  have ff : ∀ q, mx_fmt μ2 q = mx_fmt μ q := fun q => mx_fmt_mu (fun i j a b _ => by rw [c2 i (by omega) (by omega) (by omega)]) q
  have cls : fi_fire (d + 6) μ n = (if μ2 28 8 = (-1) then (am_ix 9 (μ2 28 1) (am_ix 9 (μ2 28 3) ((me_unify (d + 5) (μ2 9 (μ2 28 1).toNat) (μ2 9 (μ2 28 3).toNat) μ2 n).bind fun q2 => some (0, q2.2.1, q2.2.2)))) else if μ2 28 4 = (-1) then (fi_fire_134 (d + 5) (-1) μ2 n) else (me_tell (d + 5) (μ2 28 4) (μ2 28 5) (μ2 28 6) (μ2 28 7) μ2 n).bind fun q1 => fi_fire_134 (d + 5) q1.1 q1.2.1 q1.2.2) := by
    have l42 : ∀ s3 : Int, s3 = (if r = 0 then 1 else am_lshl 1 (f : Int)) → fi_fire_42 (d + 5) ((7 * e + r : Nat) : Int) (μ 13 (7 * e + r)) s3 μ1 n = (if μ2 28 8 = (-1) then (am_ix 9 (μ2 28 1) (am_ix 9 (μ2 28 3) ((me_unify (d + 5) (μ2 9 (μ2 28 1).toNat) (μ2 9 (μ2 28 3).toNat) μ2 n).bind fun q2 => some (0, q2.2.1, q2.2.2)))) else if μ2 28 4 = (-1) then (fi_fire_134 (d + 5) (-1) μ2 n) else (me_tell (d + 5) (μ2 28 4) (μ2 28 5) (μ2 28 6) (μ2 28 7) μ2 n).bind fun q1 => fi_fire_134 (d + 5) q1.1 q1.2.1 q1.2.2) := by
      intro s3 hs3
      have z28 : (am_wr μ1 13 (7 * e + r) (am_lor (μ 13 (7 * e + r)) s3)) 28 2 = r := by rw [mx_wr_ne (by decide)]; exact g2
      have z14 : (am_wr μ1 13 (7 * e + r) (am_lor (μ 13 (7 * e + r)) s3)) 14 = μ 14 := by rw [mx_wr_ne (by decide), c1 14 (by decide)]
      rw [fi_fire_42_e, ix_13 AT.1 AT.2, Int.toNat_natCast, mx_m, z28, ix_14 R.1 R.2, ix_14 R.1 R.2, Int.toNat_natCast, z14, mx_m, hs3, ← hμ2]
    rw [fi_fire_e, p1, Option.bind_some]
    dsimp only
    simp only [g1, g2]
    rw [mx_w7r e r he64 hr, ix_13 AT.1 AT.2, Int.toNat_natCast, c1 13 (by decide)]
    by_cases r0 : r = 0
    · rw [if_pos (mx_eq0 r0)]
      exact l42 1 (by rw [if_pos r0])
    · rw [if_neg (mx_ne0 r0), g3, if_neg r0]
      exact l42 _ (by rw [if_neg r0])
  -- the reference, up to there
  have refm : ∀ τ : am_M, mx_rl μ τ → τ 82 65 = e → τ 82 66 = r → τ 82 67 = (if r = 0 then -1 else (f : Int)) → ∃ τ1 : am_M, mx_Fq [96, 97] [(82, 3)] τ τ1 ∧ mx_rl μ2 τ1 ∧ τ1 96 = mx_up (τ 96) (mx_ixf e r f) 1 ∧ τ1 97 = mx_up (τ 97) r (am_w (τ 97 r + 1)) ∧ τ1 82 3 = am_w (τ 82 3 + 1) ∧
      mo_fires (d + 6) τ n = (if (r : Int) = 4 then (am_ix 93 e (am_ix 93 (τ1 82 67) ((mo_merges (d + 5) (τ1 93 e) (τ1 93 (τ1 82 67).toNat) τ1 n).bind fun q3 => some (0, q3.2.1, q3.2.2)))) else if 0 < (r : Int) then ((mo_bracket (d + 5) τ1 n).bind fun q1 => am_ix 137 0 (am_ix 137 1 (am_ix 137 2 (am_ix 137 3 ((mo_told (d + 5) (q1.2.1 137 0) (q1.2.1 137 1) (q1.2.1 137 2) (q1.2.1 137 3) q1.2.1 q1.2.2).bind fun q2 => mo_fires_134 (d + 5) e q2.1 q2.2.1 q2.2.2))))) else mo_fires_134 (d + 5) e 0 τ1 n) := by
    intro τ hrl t1 t2 t3
    refine ⟨am_wr (am_wr (am_wr τ 96 (mx_ixf e r f) 1) 97 r (am_w (τ 97 r + 1))) 82 3 (am_w (τ 82 3 + 1)), mx_fq_wr (mx_fq_wc (mx_fq_wc mx_fq_rf rfl) rfl) rfl, ?_, ?_, ?_, ?_, ?_⟩
    · refine mx_rl_mu (mx_rl_fr hrl (fun i j a b => ?_) (fun j a => ?_)) (fun i j a b _ => by rw [c2 i (by omega) (by omega) (by omega)])
      · rw [mx_wr_no (by omega), mx_wr_no (by omega), mx_wr_no (by omega)]
      · rw [mx_wr_no (by omega), mx_wr_no (by omega), mx_wr_no (by omega)]
    · rw [mx_wr_ne (by decide), mx_wr_ne (by decide), mx_wr_up]
    · rw [mx_wr_ne (by decide), mx_wr_up, mx_wr_ne (by decide)]
    · rw [mx_wr_at]
    · have l38 : ∀ s2 : Nat, s2 = (if r = 0 then 64 else f) → mo_fires_38 (d + 5) e (am_w (am_w (am_w ((e : Int) * 7) + r) * 65)) (s2 : Int) τ n = (if (r : Int) = 4 then (am_ix 93 e (am_ix 93 ((am_wr (am_wr (am_wr τ 96 (mx_ixf e r f) 1) 97 r (am_w (τ 97 r + 1))) 82 3 (am_w (τ 82 3 + 1))) 82 67) ((mo_merges (d + 5) ((am_wr (am_wr (am_wr τ 96 (mx_ixf e r f) 1) 97 r (am_w (τ 97 r + 1))) 82 3 (am_w (τ 82 3 + 1))) 93 e) ((am_wr (am_wr (am_wr τ 96 (mx_ixf e r f) 1) 97 r (am_w (τ 97 r + 1))) 82 3 (am_w (τ 82 3 + 1))) 93 ((am_wr (am_wr (am_wr τ 96 (mx_ixf e r f) 1) 97 r (am_w (τ 97 r + 1))) 82 3 (am_w (τ 82 3 + 1))) 82 67).toNat) (am_wr (am_wr (am_wr τ 96 (mx_ixf e r f) 1) 97 r (am_w (τ 97 r + 1))) 82 3 (am_w (τ 82 3 + 1))) n).bind fun q3 => some (0, q3.2.1, q3.2.2)))) else if 0 < (r : Int) then ((mo_bracket (d + 5) (am_wr (am_wr (am_wr τ 96 (mx_ixf e r f) 1) 97 r (am_w (τ 97 r + 1))) 82 3 (am_w (τ 82 3 + 1))) n).bind fun q1 => am_ix 137 0 (am_ix 137 1 (am_ix 137 2 (am_ix 137 3 ((mo_told (d + 5) (q1.2.1 137 0) (q1.2.1 137 1) (q1.2.1 137 2) (q1.2.1 137 3) q1.2.1 q1.2.2).bind fun q2 => mo_fires_134 (d + 5) e q2.1 q2.2.1 q2.2.2))))) else mo_fires_134 (d + 5) e 0 (am_wr (am_wr (am_wr τ 96 (mx_ixf e r f) 1) 97 r (am_w (τ 97 r + 1))) 82 3 (am_w (τ 82 3 + 1))) n) := by
        intro s2 hs2
        have hlt : s2 < 65 := by rw [hs2]; split <;> omega
        have hx : 455 * e + 65 * r + s2 = mx_ixf e r f := by rw [hs2]; rfl
        have IX : (0 : Int) ≤ ((mx_ixf e r f : Nat) : Int) ∧ ((mx_ixf e r f : Nat) : Int) < 29120 := ⟨by omega, by omega⟩
        have z1 : (am_wr τ 96 (mx_ixf e r f) 1) 82 66 = r := by rw [mx_wr_ne (by decide)]; exact t2
        have z2 : (am_wr τ 96 (mx_ixf e r f) 1) 97 = τ 97 := mx_wr_ne (by decide)
        have z3 : (am_wr (am_wr τ 96 (mx_ixf e r f) 1) 97 r (am_w (τ 97 r + 1))) 82 3 = τ 82 3 := by rw [mx_wr_ne (by decide), mx_wr_ne (by decide)]
        have z4 : (am_wr (am_wr (am_wr τ 96 (mx_ixf e r f) 1) 97 r (am_w (τ 97 r + 1))) 82 3 (am_w (τ 82 3 + 1))) 82 66 = r := by rw [mx_wr_off (by decide), mx_wr_ne (by decide)]; exact z1
        rw [mo_fires_38_e, mx_wi e r s2 he64 hr hlt, hx, ix_96 IX.1 IX.2, Int.toNat_natCast, mx_m, mx_up1, z1, ix_97 R.1 R.2, ix_97 R.1 R.2, Int.toNat_natCast, z2, mx_m, mx_m, z3]
        simp only [z4, Int.toNat_natCast]
      rw [mo_fires_e, t1, t2, t3]
      by_cases r0 : r = 0
      · rw [if_pos (by rw [if_pos r0])]
        exact l38 64 (by rw [if_pos r0])
      · rw [if_neg (by rw [if_neg r0]; omega), if_neg r0]
        exact l38 f (by rw [if_neg r0])
  by_cases r4 : r = 4
  · -- GROUPS merge
    obtain ⟨-, -, -, -, k4, -, -⟩ := mx_fb_k fb2
    obtain ⟨ka, kb, kc⟩ := k4 r4
    have r0 : r ≠ 0 := by omega
    have hx := (fb2.2.2.2 r0).1
    have ce := mx_col gd2 e fb2.1.1 fb2.1.2 (by omega)
    have cf := mx_col gd2 f fb2.2.1.1 fb2.2.1.2 (by omega)
    have hC : μ2 11 (μ2 9 e).toNat = μ2 11 (μ2 9 f).toNat := by
      rw [ce.1, cf.1, kb, kc]
      rcases ka with q | q
      · rw [q, mx_cb3, mx_cb3]
        have e1 : mx_yc (μ2 11) (μ2 7 e) = μ2 11 (μ2 9 f).toNat := by rw [hx]; unfold mx_yc; rw [if_pos ce.2.2.2.2.1.1]
        rw [e1, cf.1, kb, q, mx_cb3]
      · rw [q]
        unfold mx_cb
        rw [if_pos rfl, if_pos rfl]
    have hv2 : 0 ≤ μ2 2 17 ∧ μ2 2 17 < 2147483000 := by rw [c2 2 (by decide) (by decide) (by decide)]; exact ⟨hv.1, by omega⟩
    obtain ⟨μ', a1, a2, a3, a4, a5, a6, a7⟩ := unify_b (n := n) gd2 (d + 1) ce.2.2.2.2.2.2.2.2.1 cf.2.2.2.2.2.2.2.2.1 hC hv2
    have k28 := (mx_k4 h hg (-2)).1.mpr r4
    refine ⟨μ', ?_, mx_fq_tr (mx_fq_up F2 rfl) (mx_fq_up a2 rfl), a3, ?_, mx_vs_l (mx_vs_up a5 (by decide)) (by rw [c2 2 (by decide) (by decide) (by decide)]) (by rw [c2 2 (by decide) (by decide) (by decide)]) (by rw [c2 2 (by decide) (by decide) (by decide)]) (fun i a b => c2 i (by omega) (by omega) (by omega)), ?_, ?_, fun τ hrl t1 t2 t3 => ?_⟩
    · rw [cls, if_pos (by rw [c28, p4.1]; exact k28), c28, g1, g3, if_neg r0, ix_9 E.1 E.2.1, ix_9 Fb.1 Fb.2.1, Int.toNat_natCast, Int.toNat_natCast, a1]; rfl
    · rw [show μ' 13 = μ2 13 from funext fun j => a2 13 j (by decide) (by simp)]; exact a4 _ _ Fs2
    · rw [a2 2 3 (by decide) (by decide), c2 2 (by decide) (by decide) (by decide)]; exact Int.le_refl _
    · rw [show μ' 14 = μ2 14 from funext fun j => a2 14 j (by decide) (by simp)]; exact c14
    · obtain ⟨τ1, b1, b2, b3, b4, b5, b6⟩ := refm τ hrl t1 t2 t3
      have hin := ((b2.1.1 e fb2.1.1).2.2.2 fb2.1.2).1
      have hif := ((b2.1.1 f fb2.2.1.1).2.2.2 fb2.2.1.2).1
      obtain ⟨τ', d1, d2, d3⟩ := a7 τ1 b2 (τ1 93 e) (τ1 93 f) ⟨hin.1, hin.2.1⟩ ⟨hif.1, hif.2.1⟩ (Or.inl ⟨hin.2.2, hif.2.2⟩)
      have u67 : τ1 82 67 = f := by rw [b1 82 67 (by decide) (by decide), t3, if_neg r0]
      refine ⟨τ', ?_, mx_fq_tr (mx_fq_up b1 rfl) (mx_fq_up (mx_fq_of d2) rfl), d3, by rw [d2 96 (by decide)]; exact b3, by rw [d2 97 (by decide)]; exact b4, by rw [d2 82 (by decide)]; exact b5⟩
      rw [b6, if_pos (mx_eq4 r4), u67, ix_93 E.1 E.2.2, ix_93 Fb.1 Fb.2.2, Int.toNat_natCast, d1]; rfl
  · have n28 : ¬ (μ2 28 8 = -1) := by rw [c28, p4.1]; exact fun q => r4 ((mx_k4 h hg (-2)).1.mp q)
    have h172 : μ2 2 17 = μ 2 17 := by rw [c2 2 (by decide) (by decide) (by decide)]
    have h23 : μ2 2 3 = μ 2 3 := by rw [c2 2 (by decide) (by decide) (by decide)]
    have h29 : μ2 2 9 = μ 2 9 := by rw [c2 2 (by decide) (by decide) (by decide)]
    by_cases r0 : r = 0
    · have nn : mx_fmt μ2 (mx_o4 μ2 r e f (-1)) = -1 → μ2 2 3 < 64 := fun q => by
        rw [ff, o42] at q
        unfold mx_nn at hroom
        rw [if_neg r4, if_pos r0] at hroom
        have : mx_o4 μ 0 e f (-1) = mx_o4 μ r e f (-1) := by rw [r0]
        rw [this, if_pos q] at hroom
        omega
      obtain ⟨μ', a1, a2, a3, a4, a5, a6, a7⟩ := out_b (n := n) gd2 fb2 r4 (-1) 0 (fun q => absurd r0 q) (fun q => absurd r0 q) s12.2 (by rw [c28]; exact g1) nn ⟨by omega, by omega⟩ d
      refine ⟨μ', ?_, mx_fq_tr (mx_fq_up F2 rfl) (mx_fq_up a2 rfl), a3, ?_, mx_vs_l (mx_vs_up a5 (by decide)) h172 h23 h29 (fun i a b => c2 i (by omega) (by omega) (by omega)), by omega, ?_, fun τ hrl t1 t2 t3 => ?_⟩
      · rw [cls, if_neg n28, if_pos (by rw [c28, p3.1]; exact (mx_k4 h hg (-2)).2.mpr (Or.inl r0)), a1]
      · rw [show μ' 13 = μ2 13 from funext fun j => a2 13 j (by decide) (by simp)]; exact a4 _ _ Fs2
      · rw [show μ' 14 = μ2 14 from funext fun j => a2 14 j (by decide) (by simp)]; exact c14
      · obtain ⟨τ1, b1, b2, b3, b4, b5, b6⟩ := refm τ hrl t1 t2 t3
        obtain ⟨τ', d1, d2, d3⟩ := a7 τ1 b2 (by rw [b1 82 65 (by decide) (by decide)]; exact t1) (by rw [b1 82 66 (by decide) (by decide)]; exact t2) (fun q => absurd r0 q)
        refine ⟨τ', ?_, mx_fq_tr (mx_fq_up b1 rfl) (mx_fq_up d2 rfl), d3, ?_, ?_, ?_⟩
        · rw [b6, if_neg (mx_ne4 r4), if_neg (by rw [r0]; decide), d1]
        · rw [show τ' 96 = τ1 96 from funext fun j => d2 96 j (by decide) (by simp)]; exact b3
        · rw [show τ' 97 = τ1 97 from funext fun j => d2 97 j (by decide) (by simp)]; exact b4
        · rw [d2 82 3 (by decide) (by decide)]; exact b5
    · -- what is told first
      have li := mx_leg_i gd2 fb2 r0 r4
      have k1 := mx_i4_1 fb2 r0 r4
      have tcy : mx_tc (μ2 3) (μ2 11) (mx_i4 μ2 r e f).1 (mx_i4 μ2 r e f).2.1 (mx_i4 μ2 r e f).2.2.1 = mx_yc (μ2 11) (mx_i4 μ2 r e f).2.2.1 := by unfold mx_tc mx_yc; rw [if_neg k1]
      have hr1 : mx_fm μ2 (mx_i4 μ2 r e f).1 (mx_i4 μ2 r e f).2.1 (mx_i4 μ2 r e f).2.2.1 (mx_i4 μ2 r e f).2.2.2 = -1 → μ2 2 3 < 64 := fun q => by
        have q' : mx_fmt μ (mx_i4 μ r e f) = -1 := by rw [← ff, ← i42]; exact q
        unfold mx_nn at hroom
        rw [if_neg r4, if_neg r0, if_pos q'] at hroom
        omega
      obtain ⟨gi, μ3, a1, a2, a3, a4, a5, ⟨a6, a6'⟩, ⟨a7, a8, a9, a10⟩, a11, a12, a13, a14⟩ := tell_b (n := n) gd2 (d + 2) (d + 2) li hr1 ⟨by omega, by omega⟩
      rw [tcy] at a10
      have m3 : μ2 2 3 ≤ μ3 2 3 := by rw [a6]; split <;> omega
      obtain ⟨fb3, o43, i43⟩ := mx_fb_mu (μ' := μ3) gd2 fb2 m3 (fun i hi => (a11 i hi).2) a12
      have c283 : μ3 28 = μ2 28 := funext fun j => a2 28 j (by decide) (by simp)
      have vb := mx_vs_b a5 (by decide)
      have w2' := gd2.1.2.1
      have yc3 : ∀ v : Int, v = -1 ∨ (0 ≤ v ∧ v < μ2 2 9 ∧ μ2 10 v.toNat = v) → mx_yc (μ3 11) v = mx_yc (μ2 11) v := fun v hv' => by
        unfold mx_yc
        rcases hv' with q | q
        · rw [if_neg (by omega), if_neg (by omega)]
        · rw [if_pos q.1, if_pos q.1, (a11 _ (by omega)).2]
      have lx := li.2.2.2.2.2.1 k1
      have ly : (mx_i4 μ2 r e f).2.2.2 = -1 ∨ (0 ≤ (mx_i4 μ2 r e f).2.2.2 ∧ (mx_i4 μ2 r e f).2.2.2 < μ2 2 9 ∧ μ2 10 (mx_i4 μ2 r e f).2.2.2.toNat = (mx_i4 μ2 r e f).2.2.2) := by
        rcases Int.lt_or_le (mx_i4 μ2 r e f).1 5 with q | q
        · exact Or.inl (li.2.2.2.2.2.2.1 q)
        · exact Or.inr (li.2.2.2.2.2.2.2.1 q)
      have room3 : mx_fmt μ3 (mx_o4 μ3 r e f gi) = -1 → μ3 2 3 < 64 := fun q => by
        unfold mx_nn at hroom
        rw [if_neg r4, if_neg r0] at hroom
        by_cases z : mx_fmt μ (mx_i4 μ r e f) = -1
        · rw [if_pos z] at hroom
          rw [a6]
          split <;> omega
        · have z2 : mx_fm μ2 (mx_i4 μ2 r e f).1 (mx_i4 μ2 r e f).2.1 (mx_i4 μ2 r e f).2.2.1 (mx_i4 μ2 r e f).2.2.2 ≠ -1 := fun w => z (by rw [← ff, ← i42]; exact w)
          obtain ⟨y1, y2⟩ := a13 z2
          rw [if_neg z] at hroom
          have y3 : gi = μ 9 (mx_fmt μ (mx_i4 μ r e f)).toNat := by
            rw [y2, c2 9 (by decide) (by decide) (by decide), ← ff, ← i42]; rfl
          rw [y1, ff, o42, y3] at q
          rw [if_pos q] at hroom
          rw [y1]
          omega
      obtain ⟨μ', b1, b2, b3, b4, b5, b6, b7⟩ := out_b (n := n) a3 fb3 r4 gi gi (fun _ => ⟨a7, a8, a9, by rw [i43, yc3 _ (Or.inr lx), yc3 _ ly]; exact a10⟩) (fun _ => rfl) (by rw [c283, o43]; exact s12.2) (by rw [c283, c28]; exact g1) room3 ⟨by omega, by omega⟩ d
      refine ⟨μ', ?_, mx_fq_tr (mx_fq_up F2 rfl) (mx_fq_tr (mx_fq_up a2 rfl) (mx_fq_up b2 rfl)), b3, ?_, mx_vs_l (mx_vs_tr a5 b5 (by decide) (by decide)) h172 h23 h29 (fun i a b => c2 i (by omega) (by omega) (by omega)), by omega, ?_, fun τ hrl t1 t2 t3 => ?_⟩
      · rw [cls, if_neg n28, if_neg (by rw [c28, p3.1]; exact fun q => by have := (mx_k4 h hg (-2)).2.mp q; omega), s12.1.1, s12.1.2.1, s12.1.2.2.1, s12.1.2.2.2, a1, Option.bind_some, b1]
      · rw [show μ' 13 = μ3 13 from funext fun j => b2 13 j (by decide) (by simp), show μ3 13 = μ2 13 from funext fun j => a2 13 j (by decide) (by simp)]
        exact b4 _ _ (a4 _ _ Fs2)
      · rw [show μ' 14 = μ3 14 from funext fun j => b2 14 j (by decide) (by simp), show μ3 14 = μ2 14 from funext fun j => a2 14 j (by decide) (by simp)]; exact c14
      · obtain ⟨τ1, u1, u2, u3, u4, u5, u6⟩ := refm τ hrl t1 t2 t3
        have s65 : τ1 82 65 = e := by rw [u1 82 65 (by decide) (by decide)]; exact t1
        have s66 : τ1 82 66 = r := by rw [u1 82 66 (by decide) (by decide)]; exact t2
        have s67 : τ1 82 67 = f := by rw [u1 82 67 (by decide) (by decide), t3, if_neg r0]
        obtain ⟨x', y', v1, v2, v3⟩ := mo_bracket_s (n := n) gd2 u2 fb2 r0 r4 (d + 3) s65 s66 s67
        obtain ⟨i0, i1, i2, i3⟩ := mx_wh_i (τ := τ1) (a := (mx_i4 μ2 r e f).1) (b := (mx_i4 μ2 r e f).2.1) (c := x') (d := y')
        obtain ⟨τ2, w1, w2, w3⟩ := a14 _ (mx_rl_wh (a := (mx_i4 μ2 r e f).1) (b := (mx_i4 μ2 r e f).2.1) (c := x') (d := y') u2) x' y' (fun _ => v2) v3
        have x82 : ∀ j, j ≠ 1 → j ≠ 2 → τ2 82 j = τ1 82 j := fun j q1 q2 => by
          rw [w2 82 j (by decide) (by simp only [List.mem_cons, List.not_mem_nil, or_false, Prod.mk.injEq]; omega)]
          exact congrFun (mx_wh_f 82 (by decide)) j
        obtain ⟨τ', d1, d2, d3⟩ := b7 τ2 w3 (by rw [x82 65 (by decide) (by decide)]; exact s65) (by rw [x82 66 (by decide) (by decide)]; exact s66) (fun _ => by rw [x82 67 (by decide) (by decide)]; exact s67)
        have x96 : ∀ c, c = 96 ∨ c = 97 → τ' c = τ1 c := fun c hc => funext fun j => by
          rw [d2 c j (by simp only [List.mem_cons, List.not_mem_nil, or_false, not_or]; omega) (by simp only [List.mem_cons, List.not_mem_nil, or_false, Prod.mk.injEq]; omega), w2 c j (by simp only [List.mem_cons, List.not_mem_nil, or_false, not_or]; omega) (by simp only [List.mem_cons, List.not_mem_nil, or_false, not_or, Prod.mk.injEq]; omega)]
          exact congrFun (mx_wh_f c (by simp only [List.mem_cons, List.not_mem_nil, or_false]; omega)) j
        refine ⟨τ', ?_, mx_fq_tr (mx_fq_up u1 rfl) (mx_fq_tr (mx_fq_up (mx_fq_of mx_wh_f) rfl) (mx_fq_tr (mx_fq_up w2 rfl) (mx_fq_up d2 rfl))), d3, by rw [x96 96 (Or.inl rfl)]; exact u3, by rw [x96 97 (Or.inr rfl)]; exact u4, ?_⟩
        · rw [u6, if_neg (mx_ne4 r4), if_pos (by omega), v1, Option.bind_some, ix_137 (by decide) (by decide), ix_137 (by decide) (by decide), ix_137 (by decide) (by decide), ix_137 (by decide) (by decide)]
          dsimp only
          rw [i0, i1, i2, i3, w1, Option.bind_some, d1]
        · rw [d2 82 3 (by decide) (by decide), x82 3 (by decide) (by decide)]; exact u5
end
