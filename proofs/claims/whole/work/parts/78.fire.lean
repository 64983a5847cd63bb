/-! a FIRING is fired -/
theorem mx_cb3 {o a b : Int} : mx_cb 3 o a b = a := by unfold mx_cb; rw [if_neg (by decide), if_neg (by decide)]
theorem mx_cb5 {o a b : Int} : mx_cb 5 o a b = am_or a b := by unfold mx_cb; rw [if_neg (by decide), if_pos rfl]
theorem mx_cb6 {o a b : Int} : mx_cb 6 o a b = a := by unfold mx_cb; rw [if_neg (by decide), if_neg (by decide)]
theorem mx_ft3 {o a b : Int} : mx_ft 3 o a b = mx_hc a (am_w (Int.tdiv o 2)) := by unfold mx_ft; rw [if_neg (by decide), if_pos rfl]
theorem mx_ft4 {o a b : Int} : mx_ft 4 o a b = mx_hc a o := by unfold mx_ft; rw [if_neg (by decide), if_neg (by decide), if_pos rfl]
theorem mx_ft5 {o a b : Int} : mx_ft 5 o a b = (mx_hc a o && mx_hc b o) := by unfold mx_ft; rw [if_neg (by decide), if_neg (by decide), if_neg (by decide)]
section
variable {n : Nat} {μ : am_M}
theorem mx_leg_o (hg : mx_gd μ) {r e f : Nat} (h : mx_fb μ r e f) (h4 : r ≠ 4) {g' gi : Int} {T' C' : Nat → Int} (hgg : μ 2 9 ≤ g') (hT : ∀ i : Nat, (i : Int) < μ 2 9 → T' i = μ 10 i) (hC : ∀ i : Nat, (i : Int) < μ 2 9 → C' i = μ 11 i)
    (hgi : r ≠ 0 → 0 ≤ gi ∧ gi < g' ∧ T' gi.toNat = gi ∧ C' gi.toNat = mx_cb (mx_i4 μ r e f).1 (mx_i4 μ r e f).2.1 (mx_yc (μ 11) (mx_i4 μ r e f).2.2.1) (mx_yc (μ 11) (mx_i4 μ r e f).2.2.2)) :
    mx_lg (μ 2 0) g' (μ 3) T' C' (mx_o4 μ r e f gi).1 (mx_o4 μ r e f gi).2.1 (mx_o4 μ r e f gi).2.2.1 (mx_o4 μ r e f gi).2.2.2 ∧ mx_cb (mx_o4 μ r e f gi).1 (mx_o4 μ r e f gi).2.1 (mx_tc (μ 3) C' (mx_o4 μ r e f gi).1 (mx_o4 μ r e f gi).2.1 (mx_o4 μ r e f gi).2.2.1) (mx_yc C' (mx_o4 μ r e f gi).2.2.2) = μ 11 (μ 9 e).toNat := by
  obtain ⟨k0, k1, k2, k3, -, k5, k6⟩ := mx_fb_k h
  obtain ⟨⟨he, hHe⟩, ⟨hf, hHf⟩, ⟨hr, -⟩, hx⟩ := h
  have ye : mx_yc (μ 11) (μ 7 e) = μ 11 (μ 7 e).toNat ∨ μ 7 e < 0 := by
    unfold mx_yc
    by_cases q : 0 ≤ μ 7 e
    · rw [if_pos q]; exact Or.inl rfl
    · exact Or.inr (by omega)
  have yc : ∀ v : Int, 0 ≤ v ∧ v < μ 2 9 ∧ μ 10 v.toNat = v → mx_yc C' v = mx_yc (μ 11) v := fun v hv => by
    unfold mx_yc
    rw [if_pos hv.1, if_pos hv.1, hC _ (by omega)]
  have vT : ∀ v : Int, 0 ≤ v ∧ v < μ 2 9 ∧ μ 10 v.toNat = v → 0 ≤ v ∧ v < g' ∧ T' v.toNat = v := fun v hv => ⟨hv.1, by omega, by rw [hT _ (by omega)]; exact hv.2.2⟩
  have tcy : ∀ k o x, k ≠ 1 → mx_tc (μ 3) C' k o x = mx_yc C' x := fun k o x hk => by unfold mx_tc mx_yc; rw [if_neg hk]
  have yg : r ≠ 0 → mx_yc C' gi = C' gi.toNat := fun q => by unfold mx_yc; rw [if_pos (hgi q).1]
  by_cases r0 : r = 0
  · have a1 := k0 r0
    have ce := mx_col hg e he hHe (by omega)
    unfold mx_o4
    simp only [if_pos r0]
    have fe := ce.2.1
    have fc := ce.1
    unfold mx_ft at fe
    unfold mx_cb at fc
    rw [a1] at fe fc
    simp only [Int.reduceEq, if_false, if_true, Bool.and_eq_true] at fe fc
    have e1 := yc _ ce.2.2.2.2.1
    have e2 := yc _ (ce.2.2.2.2.2.1 (by omega))
    rw [tcy _ _ _ (by decide), e1, e2]
    refine ⟨⟨Or.inr (Or.inr (Or.inr (Or.inl rfl))), ce.2.2.2.2.2.2.2.2.2.2.1, fun q => by omega, fun _ => ce.2.2.2.2.2.2.2.2.2.2.2 (by omega), fun q => by omega, fun _ => vT _ (ce.2.2.2.2.2.1 (by omega)), fun q => by omega, fun _ => vT _ ce.2.2.2.2.1, ?_⟩, ?_⟩
    · rw [tcy _ _ _ (by decide), e1, e2]
      unfold mx_ft
      simp only [Int.reduceEq, if_false, Bool.and_eq_true]
      exact ⟨fe.2, fe.1⟩
    · unfold mx_cb
      simp only [Int.reduceEq, if_false, if_true]
      rw [fc]
      have := mx_or_co (mx_yc (μ 11) (μ 8 e)).toNat (by have := ce.2.2.2.1; omega) (mx_yc (μ 11) (μ 7 e)).toNat (by have := ce.2.2.1; omega)
      rwa [Int.toNat_of_nonneg ce.2.2.2.1.1, Int.toNat_of_nonneg ce.2.2.1.1] at this
  have hx := (hx r0).1
  obtain ⟨g1, g2, g3, g4⟩ := hgi r0
  have yg := yg r0
  by_cases r1 : r = 1
  · obtain ⟨a1, a2, a3⟩ := k1 r1
    have ce := mx_col hg e he hHe (by omega)
    have cf := mx_col hg f hf hHf (by omega)
    unfold mx_i4 at g4
    unfold mx_o4
    simp only [if_pos r1] at g4
    simp only [if_neg r0, if_pos r1]
    have fe := ce.2.1
    have fc := ce.1
    have ff := cf.2.1
    have fd := cf.1
    unfold mx_ft at fe ff
    unfold mx_cb at fc fd g4
    rw [a1] at fe fc
    rw [a2] at ff fd
    simp only [Int.reduceEq, if_false, if_true, Bool.and_eq_true] at fe fc ff fd g4
    have e1 := yc _ cf.2.2.2.2.1
    rw [tcy _ _ _ (by decide), e1, yg, g4]
    have o4 := cf.2.2.2.2.2.2.2.2.2.2.2 (by omega)
    refine ⟨⟨Or.inr (Or.inr (Or.inr (Or.inl rfl))), cf.2.2.2.2.2.2.2.2.2.2.1, fun q => by omega, fun _ => o4, fun q => by omega, fun _ => vT _ cf.2.2.2.2.1, fun q => by omega, fun _ => ⟨g1, g2, g3⟩, ?_⟩, ?_⟩
    · rw [tcy _ _ _ (by decide), e1, yg, g4]
      unfold mx_ft
      simp only [Int.reduceEq, if_false, Bool.and_eq_true]
      refine ⟨ff.1, ?_⟩
      have o3 := cf.2.2.2.2.2.2.2.2.2.2.1
      have := mx_hc_or (mx_yc (μ 11) (μ 8 f)).toNat (by have := cf.2.2.2.1; omega) (mx_yc (μ 11) (μ 8 e)).toNat (by have := ce.2.2.2.1; omega) (μ 6 f).toNat (by omega)
      rw [Int.toNat_of_nonneg cf.2.2.2.1.1, Int.toNat_of_nonneg ce.2.2.2.1.1, Int.toNat_of_nonneg o3.1] at this
      exact this ff.2
    · unfold mx_cb
      simp only [Int.reduceEq, if_false, if_true]
      have e3 : mx_yc (μ 11) (μ 7 e) = am_or (mx_yc (μ 11) (μ 7 f)) (mx_yc (μ 11) (μ 8 f)) := by
        rcases ye with q | q
        · rw [q, ← hx, fd]
        · have := ce.2.2.2.2.1; omega
      rw [fc, e3]
      have := mx_or_as (mx_yc (μ 11) (μ 7 f)).toNat (by have := cf.2.2.1; omega) (mx_yc (μ 11) (μ 8 f)).toNat (by have := cf.2.2.2.1; omega) (mx_yc (μ 11) (μ 8 e)).toNat (by have := ce.2.2.2.1; omega)
      rwa [Int.toNat_of_nonneg cf.2.2.1.1, Int.toNat_of_nonneg cf.2.2.2.1.1, Int.toNat_of_nonneg ce.2.2.2.1.1] at this
  by_cases r2 : r = 2
  · obtain ⟨a1, a2, a3⟩ := k2 r2
    have ce := mx_col hg e he hHe (by omega)
    have cf := mx_col hg f hf hHf (by omega)
    unfold mx_i4 at g4
    unfold mx_o4
    simp only [if_neg r1, if_pos (Or.inl r2 : r = 2 ∨ r = 3)] at g4
    simp only [if_neg r0, if_neg r1, if_pos r2]
    have g5 : C' gi.toNat = mx_yc (μ 11) (μ 7 f) := by rw [g4, mx_cb3]
    have e2 := yc _ (cf.2.2.2.2.2.1 (by omega))
    have kf : μ 5 f ≠ 1 := by omega
    rw [tcy _ _ _ kf, e2, yg, g5]
    refine ⟨⟨cf.2.2.2.2.2.2.2.2.2.1, cf.2.2.2.2.2.2.2.2.2.2.1, fun q => by omega, cf.2.2.2.2.2.2.2.2.2.2.2, fun q => by omega, fun _ => ⟨g1, g2, g3⟩, cf.2.2.2.2.2.2.1, fun _ => vT _ (cf.2.2.2.2.2.1 (by omega)), ?_⟩, ?_⟩
    · rw [tcy _ _ _ kf, e2, yg, g5]; exact cf.2.1
    · rw [← cf.1, hx]
      have fc := ce.1
      rw [a1] at fc
      rw [fc, mx_cb3]
      rcases ye with q | q
      · exact q.symm
      · have := ce.2.2.2.2.1; omega
  by_cases r3 : r = 3
  · obtain ⟨a1, a2⟩ := k3 r3
    have ce := mx_col hg e he hHe (by omega)
    have cf := mx_col hg f hf hHf (by omega)
    unfold mx_i4 at g4
    unfold mx_o4
    simp only [if_neg r1, if_pos (Or.inr r3 : r = 2 ∨ r = 3)] at g4
    simp only [if_neg r0, if_neg r1, if_neg r2, if_pos (Or.inl r3 : r = 3 ∨ r = 5)]
    have g5 : C' gi.toNat = mx_yc (μ 11) (μ 7 f) := by rw [g4, mx_cb3]
    rw [tcy _ _ _ (by decide), yg, g5]
    have ff := cf.2.1
    have fd := cf.1
    have fc := ce.1
    rw [a2] at ff fd
    rw [a1] at fc
    refine ⟨⟨Or.inr (Or.inl rfl), cf.2.2.2.2.2.2.2.2.2.2.1, fun q => by omega, fun q => by omega, fun q => by omega, fun _ => ⟨g1, g2, g3⟩, fun _ => rfl, fun q => by omega, ?_⟩, ?_⟩
    · rw [tcy _ _ _ (by decide), yg, g5, mx_ft3]
      rw [mx_ft3] at ff
      exact ff
    · rw [mx_cb3, fc, mx_cb3]
      rcases ye with q | q
      · rw [q, ← hx, fd, mx_cb3]
      · have := ce.2.2.2.2.1; omega
  by_cases r5 : r = 5
  · obtain ⟨a1, a2, a3⟩ := k5 r5
    have ce := mx_col hg e he hHe (by omega)
    have cf := mx_col hg f hf hHf (by omega)
    unfold mx_i4 at g4
    unfold mx_o4
    simp only [if_neg r1, if_neg (show ¬ (r = 2 ∨ r = 3) by omega), if_pos r5] at g4
    simp only [if_neg r0, if_neg r1, if_neg r2, if_pos (Or.inr r5 : r = 3 ∨ r = 5)]
    have o3 := ce.2.2.2.2.2.2.2.2.2.2.1
    have o4 := ce.2.2.2.2.2.2.2.2.2.2.2 (by omega)
    have g5 : C' gi.toNat = am_shl 1 (μ 6 e) := by
      rw [g4]
      unfold mx_cb
      rw [if_pos rfl, if_pos ⟨o3.1, o4⟩]
    rw [tcy _ _ _ (by decide), yg, g5]
    have fc := ce.1
    rw [a1] at fc
    refine ⟨⟨Or.inr (Or.inl rfl), cf.2.2.2.2.2.2.2.2.2.2.1, fun q => by omega, fun q => by omega, fun q => by omega, fun _ => ⟨g1, g2, g3⟩, fun _ => rfl, fun q => by omega, ?_⟩, ?_⟩
    · rw [tcy _ _ _ (by decide), yg, g5]
      unfold mx_ft
      rw [if_neg (by decide), if_pos rfl, a3]
      have := mx_hc_sh (μ 6 e).toNat (by omega)
      rwa [Int.toNat_of_nonneg o3.1] at this
    · rw [fc, mx_cb3]
      unfold mx_cb
      rw [if_pos rfl, if_pos ⟨o3.1, o4⟩]
  · have r6 : r = 6 := by omega
    obtain ⟨a1, a2⟩ := k6 r6
    have ce := mx_col hg e he hHe (by omega)
    have cf := mx_col hg f hf hHf (by omega)
    unfold mx_i4 at g4
    unfold mx_o4
    simp only [if_neg r1, if_neg (show ¬ (r = 2 ∨ r = 3) by omega), if_neg r5, if_pos r6] at g4
    simp only [if_neg r0, if_neg r1, if_neg r2, if_neg (show ¬ (r = 3 ∨ r = 5) by omega), if_pos r6]
    have g5 : C' gi.toNat = mx_yc (μ 11) (μ 7 f) := by rw [g4, mx_cb6]
    have e2 := yc _ (cf.2.2.2.2.2.1 (by omega))
    rw [tcy _ _ _ (by decide), e2, yg, g5]
    have ff := cf.2.1
    have fd := cf.1
    have fc := ce.1
    rw [a2] at ff fd
    rw [a1] at fc
    refine ⟨⟨Or.inr (Or.inr (Or.inr (Or.inr rfl))), cf.2.2.2.2.2.2.2.2.2.2.1, fun q => by omega, fun _ => cf.2.2.2.2.2.2.2.2.2.2.2 (by omega), fun q => by omega, fun _ => ⟨g1, g2, g3⟩, fun q => by omega, fun _ => vT _ (cf.2.2.2.2.2.1 (by omega)), ?_⟩, ?_⟩
    · rw [tcy _ _ _ (by decide), e2, yg, g5]; exact ff
    · rw [mx_cb6, fc, mx_cb6]
      rcases ye with q | q
      · rw [q, ← hx, fd, mx_cb6]
      · have := ce.2.2.2.2.1; omega
/-! the class writes down what a FIRING is -/
def mx_w4 (σ : am_M) (j : Nat) (a b c d : Int) : am_M := am_wr (am_wr (am_wr (am_wr σ 28 j a) 28 (j + 1) b) 28 (j + 2) c) 28 (j + 3) d
theorem fi_inner_s (d : Nat) (a b c e : Int) (σ : am_M) : fi_inner (d + 1) a b c e σ n = some (0, mx_w4 σ 4 a b c e, n) := by rw [fi_inner_e]; rfl
theorem fi_outcome_s (d : Nat) (a b c e : Int) (σ : am_M) : fi_outcome (d + 1) a b c e σ n = some (0, mx_w4 σ 8 a b c e, n) := by rw [fi_outcome_e]; rfl
theorem mx_w4_o {σ : am_M} {j i k : Nat} {a b c d : Int} (h : i ≠ 28 ∨ k < j ∨ j + 4 ≤ k) : mx_w4 σ j a b c d i k = σ i k := by
  unfold mx_w4
  rw [mx_wr_no (by omega), mx_wr_no (by omega), mx_wr_no (by omega), mx_wr_no (by omega)]
theorem mx_w4_i {σ : am_M} {j : Nat} {a b c d : Int} : mx_w4 σ j a b c d 28 j = a ∧ mx_w4 σ j a b c d 28 (j + 1) = b ∧ mx_w4 σ j a b c d 28 (j + 2) = c ∧ mx_w4 σ j a b c d 28 (j + 3) = d := by
  unfold mx_w4
  refine ⟨?_, ?_, ?_, ?_⟩
  · rw [mx_wr_no (by omega), mx_wr_no (by omega), mx_wr_no (by omega), mx_wr_at]
  · rw [mx_wr_no (by omega), mx_wr_no (by omega), mx_wr_at]
  · rw [mx_wr_no (by omega), mx_wr_at]
  · rw [mx_wr_at]
/-- what stands in the fields behind shape() -/
def mx_shp (μ : am_M) (r e f : Nat) (τ : am_M) : Prop := (τ 28 4 = (mx_i4 μ r e f).1 ∧ τ 28 5 = (mx_i4 μ r e f).2.1 ∧ τ 28 6 = (mx_i4 μ r e f).2.2.1 ∧ τ 28 7 = (mx_i4 μ r e f).2.2.2) ∧
  (τ 28 8 = (mx_o4 μ r e f (-2)).1 ∧ τ 28 9 = (mx_o4 μ r e f (-2)).2.1 ∧ τ 28 10 = (mx_o4 μ r e f (-2)).2.2.1 ∧ τ 28 11 = (mx_o4 μ r e f (-2)).2.2.2)
theorem fi_shape_s (d : Nat) (r e f : Nat) (hr : r < 7) (he : e < 64) (hf : f < 64) (h1 : μ 28 1 = e) (h2 : μ 28 2 = r) (h3 : μ 28 3 = if r = 0 then -1 else (f : Int)) : ∃ τ : am_M, fi_shape (d + 2) μ n = some (0, τ, n) ∧ mx_Fq [] [(28, 4), (28, 5), (28, 6), (28, 7), (28, 8), (28, 9), (28, 10), (28, 11)] μ τ ∧ mx_shp μ r e f τ := by
  have fr : ∀ (σ' : am_M) (j : Nat) (a b c e : Int), (j = 4 ∨ j = 8) → mx_Fq [] [(28, 4), (28, 5), (28, 6), (28, 7), (28, 8), (28, 9), (28, 10), (28, 11)] μ σ' → mx_Fq [] [(28, 4), (28, 5), (28, 6), (28, 7), (28, 8), (28, 9), (28, 10), (28, 11)] μ (mx_w4 σ' j a b c e) := by
    intro σ' j a b c e hj h
    unfold mx_w4
    rcases hj with rfl | rfl
    · exact mx_fq_wr (mx_fq_wr (mx_fq_wr (mx_fq_wr h rfl) rfl) rfl) rfl
    · exact mx_fq_wr (mx_fq_wr (mx_fq_wr (mx_fq_wr h rfl) rfl) rfl) rfl
  -- with what stands there, from 101 on
  have l101 : ∀ v3 v4 s0 : Int, (r ≠ 0 → v3 = μ 7 f ∧ v4 = μ 8 f ∧ s0 = μ 6 f) → ∃ τ : am_M, fi_shape_101 (d + 1) (μ 8 e) (μ 6 e) v3 v4 s0 μ n = some (0, τ, n) ∧ mx_Fq [] [(28, 4), (28, 5), (28, 6), (28, 7), (28, 8), (28, 9), (28, 10), (28, 11)] μ τ ∧ mx_shp μ r e f τ := by
    intro v3 v4 s0 hv
    rw [fi_shape_101_e, fi_inner_s, Option.bind_some, fi_outcome_s, Option.bind_some]
    have F0 := fr _ 8 (-1) (-1) (-1) (-1) (Or.inr rfl) (fr μ 4 (-1) (-1) (-1) (-1) (Or.inl rfl) mx_fq_rf)
    have I0 := mx_w4_i (σ := μ) (j := 4) (a := -1) (b := -1) (c := -1) (d := -1)
    obtain ⟨σ0, hσ0⟩ : ∃ σ0, σ0 = mx_w4 (mx_w4 μ 4 (-1) (-1) (-1) (-1)) 8 (-1) (-1) (-1) (-1) := ⟨_, rfl⟩
    have J0 := mx_w4_i (σ := mx_w4 μ 4 (-1) (-1) (-1) (-1)) (j := 8) (a := -1) (b := -1) (c := -1) (d := -1)
    have K0 : ∀ k, 4 ≤ k → k < 8 → σ0 28 k = mx_w4 μ 4 (-1) (-1) (-1) (-1) 28 k := fun k a b => by rw [hσ0, mx_w4_o (by omega)]
    rw [← hσ0] at F0 J0
    dsimp only
    rw [← hσ0]
    have e1 : σ0 28 1 = e := by rw [F0 28 1 (by decide) (by decide)]; exact h1
    have e2 : σ0 28 2 = r := by rw [F0 28 2 (by decide) (by decide)]; exact h2
    have e3 : σ0 28 3 = if r = 0 then -1 else (f : Int) := by rw [F0 28 3 (by decide) (by decide)]; exact h3
    have cc : ∀ i j, i ≠ 28 → σ0 i j = μ i j := fun i j q => F0 i j (by simp) (by simp only [List.mem_cons, List.not_mem_nil, or_false, Prod.mk.injEq]; omega)
    simp only [e2]
    unfold mx_shp mx_i4 mx_o4
    by_cases r0 : r = 0
    · rw [if_pos (by omega), e1, ix_7 (by omega) (by omega), fi_outcome_s, Option.bind_some, Int.toNat_natCast, cc 7 e (by decide)]
      refine ⟨_, rfl, fr _ 8 _ _ _ _ (Or.inr rfl) F0, ?_⟩
      have J := mx_w4_i (σ := σ0) (j := 8) (a := 5) (b := μ 6 e) (c := μ 8 e) (d := μ 7 e)
      simp only [if_pos r0, if_neg (show ¬ r = 1 by omega), if_neg (show ¬ (r = 2 ∨ r = 3) by omega), if_neg (show ¬ r = 5 by omega), if_neg (show ¬ r = 6 by omega)]
      refine ⟨?_, J⟩
      rw [mx_w4_o (by omega), mx_w4_o (by omega), mx_w4_o (by omega), mx_w4_o (by omega), K0 _ (by omega) (by omega), K0 _ (by omega) (by omega), K0 _ (by omega) (by omega), K0 _ (by omega) (by omega)]
      exact I0
    obtain ⟨rfl, rfl, rfl⟩ := hv r0
    rw [if_neg r0] at e3
    rw [if_neg (by omega)]
    have two : ∀ a b c d' k o l rr : Int, mx_Fq [] [(28, 4), (28, 5), (28, 6), (28, 7), (28, 8), (28, 9), (28, 10), (28, 11)] μ (mx_w4 (mx_w4 σ0 4 a b c d') 8 k o l rr) ∧ ((mx_w4 (mx_w4 σ0 4 a b c d') 8 k o l rr) 28 4 = a ∧ (mx_w4 (mx_w4 σ0 4 a b c d') 8 k o l rr) 28 5 = b ∧ (mx_w4 (mx_w4 σ0 4 a b c d') 8 k o l rr) 28 6 = c ∧ (mx_w4 (mx_w4 σ0 4 a b c d') 8 k o l rr) 28 7 = d') ∧ ((mx_w4 (mx_w4 σ0 4 a b c d') 8 k o l rr) 28 8 = k ∧ (mx_w4 (mx_w4 σ0 4 a b c d') 8 k o l rr) 28 9 = o ∧ (mx_w4 (mx_w4 σ0 4 a b c d') 8 k o l rr) 28 10 = l ∧ (mx_w4 (mx_w4 σ0 4 a b c d') 8 k o l rr) 28 11 = rr) := by
      intro a b c d' k o l rr
      refine ⟨fr _ 8 _ _ _ _ (Or.inr rfl) (fr _ 4 _ _ _ _ (Or.inl rfl) F0), ?_, mx_w4_i⟩
      have o4 : ∀ k', k' < 8 → (mx_w4 (mx_w4 σ0 4 a b c d') 8 k o l rr) 28 k' = (mx_w4 σ0 4 a b c d') 28 k' := fun k' hk => mx_w4_o (by omega)
      rw [o4 4 (by decide), o4 5 (by decide), o4 6 (by decide), o4 7 (by decide)]
      exact mx_w4_i
    by_cases r1 : r = 1
    · rw [if_pos (by omega), fi_inner_s, Option.bind_some, fi_outcome_s, Option.bind_some]
      simp only [if_neg r0, if_pos r1]
      exact ⟨_, rfl, (two _ _ _ _ _ _ _ _).1, (two _ _ _ _ _ _ _ _).2⟩
    rw [if_neg (by omega)]
    by_cases r2 : r = 2
    · rw [if_pos (by omega), fi_inner_s, Option.bind_some]
      dsimp only
      rw [mx_w4_o (by omega), e3, ix_5 (by omega) (by omega), Int.toNat_natCast, mx_w4_o (by omega), cc 5 f (by decide), fi_outcome_s, Option.bind_some]
      simp only [if_neg r0, if_neg r1, if_pos r2, if_pos (Or.inl r2 : r = 2 ∨ r = 3)]
      exact ⟨_, rfl, (two _ _ _ _ _ _ _ _).1, (two _ _ _ _ _ _ _ _).2⟩
    rw [if_neg (by omega)]
    by_cases r3 : r = 3
    · rw [if_pos (by omega), fi_inner_s, Option.bind_some, fi_outcome_s, Option.bind_some]
      simp only [if_neg r0, if_neg r1, if_neg r2, if_pos (Or.inr r3 : r = 2 ∨ r = 3), if_pos (Or.inl r3 : r = 3 ∨ r = 5)]
      exact ⟨_, rfl, (two _ _ _ _ _ _ _ _).1, (two _ _ _ _ _ _ _ _).2⟩
    rw [if_neg (by omega)]
    by_cases r4 : r = 4
    · rw [if_pos (by omega)]
      simp only [if_neg r0, if_neg r1, if_neg r2, if_neg (show ¬ (r = 2 ∨ r = 3) by omega), if_neg (show ¬ (r = 3 ∨ r = 5) by omega), if_neg (show ¬ r = 5 by omega), if_neg (show ¬ r = 6 by omega)]
      refine ⟨_, rfl, F0, ?_, J0⟩
      rw [K0 _ (by omega) (by omega), K0 _ (by omega) (by omega), K0 _ (by omega) (by omega), K0 _ (by omega) (by omega)]
      exact I0
    rw [if_neg (by omega)]
    by_cases r5 : r = 5
    · rw [if_pos (by omega), fi_inner_s, Option.bind_some, fi_outcome_s, Option.bind_some]
      simp only [if_neg r0, if_neg r1, if_neg r2, if_neg (show ¬ (r = 2 ∨ r = 3) by omega), if_pos (Or.inr r5 : r = 3 ∨ r = 5), if_pos r5]
      exact ⟨_, rfl, (two _ _ _ _ _ _ _ _).1, (two _ _ _ _ _ _ _ _).2⟩
    · rw [if_neg (by omega), if_pos (by omega), fi_inner_s, Option.bind_some, fi_outcome_s, Option.bind_some]
      simp only [if_neg r0, if_neg r1, if_neg r2, if_neg (show ¬ (r = 2 ∨ r = 3) by omega), if_neg (show ¬ (r = 3 ∨ r = 5) by omega), if_neg r5, if_pos (show r = 6 by omega)]
      exact ⟨_, rfl, (two _ _ _ _ _ _ _ _).1, (two _ _ _ _ _ _ _ _).2⟩
  rw [fi_shape_e, h1, ix_8 (by omega) (by omega), ix_6 (by omega) (by omega), Int.toNat_natCast, h3]
  by_cases r0 : r = 0
  · rw [if_pos r0, if_pos rfl, fi_shape_50_e, h3, if_pos r0, if_pos rfl, fi_shape_75_e, h3, if_pos r0, if_pos rfl]
    exact l101 _ _ _ fun q => absurd r0 q
  · rw [if_neg r0, if_neg (by omega), ix_7 (by omega) (by omega), Int.toNat_natCast, fi_shape_50_e, h3, if_neg r0, if_neg (by omega), ix_8 (by omega) (by omega), Int.toNat_natCast, fi_shape_75_e, h3, if_neg r0, if_neg (by omega), ix_6 (by omega) (by omega), Int.toNat_natCast]
    exact l101 _ _ _ fun _ => ⟨rfl, rfl, rfl⟩
theorem fi_filled_s (d : Nat) (v g : Int) (σ : am_M) : fi_filled (d + 1) v g σ n = some (if v = -2 then g else v, σ, n) := by
  rw [fi_filled_e]
  split <;> rfl
theorem mx_o4_f {r e f : Nat} {g : Int} (b : -1 ≤ μ 7 e ∧ -1 ≤ μ 8 e ∧ -1 ≤ μ 7 f ∧ -1 ≤ μ 8 f) : (mx_o4 μ r e f (-2)).1 = (mx_o4 μ r e f g).1 ∧ (mx_o4 μ r e f (-2)).2.1 = (mx_o4 μ r e f g).2.1 ∧ (if (mx_o4 μ r e f (-2)).2.2.1 = -2 then g else (mx_o4 μ r e f (-2)).2.2.1) = (mx_o4 μ r e f g).2.2.1 ∧ (if (mx_o4 μ r e f (-2)).2.2.2 = -2 then g else (mx_o4 μ r e f (-2)).2.2.2) = (mx_o4 μ r e f g).2.2.2 := by
  unfold mx_o4
  by_cases r0 : r = 0
  · simp only [if_pos r0]
    exact ⟨trivial, trivial, if_neg (by omega), if_neg (by omega)⟩
  by_cases r1 : r = 1
  · simp only [if_neg r0, if_pos r1]
    exact ⟨trivial, trivial, if_neg (by omega), if_pos trivial⟩
  by_cases r2 : r = 2
  · simp only [if_neg r0, if_neg r1, if_pos r2]
    exact ⟨trivial, trivial, if_pos trivial, if_neg (by omega)⟩
  by_cases r3 : r = 3 ∨ r = 5
  · simp only [if_neg r0, if_neg r1, if_neg r2, if_pos r3]
    exact ⟨trivial, trivial, if_pos trivial, if_neg (by omega)⟩
  by_cases r6 : r = 6
  · simp only [if_neg r0, if_neg r1, if_neg r2, if_neg r3, if_pos r6]
    exact ⟨trivial, trivial, if_pos trivial, if_neg (by omega)⟩
  · simp only [if_neg r0, if_neg r1, if_neg r2, if_neg r3, if_neg r6]
    exact ⟨trivial, trivial, if_neg (by omega), if_neg (by omega)⟩
theorem mx_k4 {r e f : Nat} (h : mx_fb μ r e f) (hg : mx_gd μ) (g : Int) : ((mx_o4 μ r e f g).1 = -1 ↔ r = 4) ∧ ((mx_i4 μ r e f).1 = -1 ↔ r = 0 ∨ r = 4) := by
  have kf := (hg.1.2.2.2.1 f h.2.1.1).1
  have hr := h.2.2.1.1
  unfold mx_o4 mx_i4
  have : r = 0 ∨ r = 1 ∨ r = 2 ∨ r = 3 ∨ r = 4 ∨ r = 5 ∨ r = 6 := by omega
  rcases this with q | q | q | q | q | q | q <;> subst q <;> simp
  rcases kf with q | q | q | q | q <;> omega
theorem mx_bnd (hg : mx_gd μ) (e : Nat) (he : (e : Int) < μ 2 3) : -1 ≤ μ 7 e ∧ -1 ≤ μ 8 e := by
  by_cases q : μ 9 e = -1
  · have := (hg.1.2.2.2.1 e he).2.2.2.2.1 q; omega
  · have := hg.1.2.2.1.1 e he q
    rcases this.2.1 with a | a <;> rcases this.2.2 with b | b <;> omega
/-- how many would be new -/
def mx_fmt (μ : am_M) (q : Int × Int × Int × Int) : Int := mx_fm μ q.1 q.2.1 q.2.2.1 q.2.2.2
def mx_nn (μ : am_M) (r e f : Nat) : Int := if r = 4 then 0 else if r = 0 then (if mx_fmt μ (mx_o4 μ 0 e f (-1)) = -1 then 1 else 0) else if mx_fmt μ (mx_i4 μ r e f) = -1 then 2 else if mx_fmt μ (mx_o4 μ r e f (μ 9 (mx_fmt μ (mx_i4 μ r e f)).toNat)) = -1 then 1 else 0
theorem mx_fmt_mu {μ' : am_M} (hc : ∀ i j, 2 ≤ i → i ≤ 9 → (i = 2 → j = 3) → μ' i j = μ i j) (q : Int × Int × Int × Int) : mx_fmt μ' q = mx_fmt μ q := by
  have c : ∀ i, 3 ≤ i → i ≤ 9 → μ' i = μ i := fun i a b => funext fun j => hc i j (by omega) b (by omega)
  unfold mx_fmt
  show mx_fi (mx_al (μ' 5) (μ' 6) (μ' 7) (μ' 8) (μ' 9) _ _ _ _) (μ' 2 3).toNat 0 = mx_fi (mx_al (μ 5) (μ 6) (μ 7) (μ 8) (μ 9) _ _ _ _) (μ 2 3).toNat 0
  rw [c 5 (by decide) (by decide), c 6 (by decide) (by decide), c 7 (by decide) (by decide), c 8 (by decide) (by decide), c 9 (by decide) (by decide), hc 2 3 (by decide) (by decide) (by omega)]
theorem mx_fmt_r (hg : mx_gd μ) (q : Int × Int × Int × Int) : mx_fmt μ q = -1 ∨ (0 ≤ mx_fmt μ q ∧ mx_fmt μ q < μ 2 3 ∧ μ 9 (mx_fmt μ q).toNat ≠ -1) := by
  have w2 := hg.1.2.1
  unfold mx_fmt
  rcases mx_fi_r (mx_al (μ 5) (μ 6) (μ 7) (μ 8) (μ 9) q.1 q.2.1 q.2.2.1 q.2.2.2) (μ 2 3) (by omega) with ⟨h, -⟩ | ⟨i, h, h2, h3, -⟩
  · exact Or.inl h
  · refine Or.inr ?_
    show 0 ≤ mx_fi _ _ _ ∧ mx_fi _ _ _ < _ ∧ μ 9 (mx_fi _ _ _).toNat ≠ -1
    rw [h, Int.toNat_natCast]
    exact ⟨by omega, h2, (of_decide_eq_true h3).2.2.2.2⟩
theorem fi_hasRoom_s (hg : mx_gd μ) (d : Nat) {r e f : Nat} (h : mx_fb μ r e f) (h1 : μ 28 1 = e) (h2 : μ 28 2 = r) (h3 : μ 28 3 = if r = 0 then -1 else (f : Int)) :
    ∃ τ : am_M, fi_hasRoom (d + 4) μ n = some (mx_b (decide (μ 2 3 + mx_nn μ r e f ≤ 64)), τ, n) ∧ mx_Fq [] [(28, 4), (28, 5), (28, 6), (28, 7), (28, 8), (28, 9), (28, 10), (28, 11)] μ τ := by
  have h64 := hg.2.1
  have w2 := hg.1.2.1
  have hb := h
  obtain ⟨⟨he, hHe⟩, ⟨hf, hHf⟩, ⟨hr, -⟩, -⟩ := hb
  obtain ⟨τ, p1, p2, p3, p4⟩ := fi_shape_s (n := n) (d + 1) r e f hr (by omega) (by omega) h1 h2 h3
  have cc : ∀ i j, i ≠ 28 → τ i j = μ i j := fun i j q => p2 i j (by simp) (by simp only [List.mem_cons, List.not_mem_nil, or_false, Prod.mk.injEq]; omega)
  have bd : -1 ≤ μ 7 e ∧ -1 ≤ μ 8 e ∧ -1 ≤ μ 7 f ∧ -1 ≤ μ 8 f := by have a := mx_bnd hg e he; have b := mx_bnd hg f hf; exact ⟨a.1, a.2, b.1, b.2⟩
  have ak : ∀ k o x y, me_alike (d + 2) k o x y τ n = some (mx_fmt μ (k, o, x, y), τ, n) := fun k o x y => by
    rw [me_alike_s _ _ _ _ _ _ _ (by rw [cc 2 3 (by decide)]; omega) (by rw [cc 2 3 (by decide)]; exact h64)]
    have := mx_fmt_mu (μ' := τ) (fun i j a b _ => cc i j (by omega)) (k, o, x, y)
    rw [← this]; rfl
  have l61 : ∀ g : Int, fi_newOnes_61 (d + 2) g τ n = some (if mx_fmt μ (mx_o4 μ r e f g) = -1 then 1 else 0, τ, n) := by
    intro g
    obtain ⟨q1, q2, q3, q4⟩ := mx_o4_f (r := r) (g := g) bd
    rw [fi_newOnes_61_e, fi_filled_s, Option.bind_some, p4.2.2.1]
    dsimp only
    rw [fi_filled_s, Option.bind_some, p4.2.2.2, q3]
    dsimp only
    rw [q4, p4.1, p4.2.1, q1, q2, ak, Option.bind_some]
    show (if mx_fmt μ (mx_o4 μ r e f g) = -1 then _ else _) = _
    split <;> rfl
  refine ⟨τ, ?_, p2⟩
  obtain ⟨k1, k2⟩ := mx_k4 h hg (-2)
  have nn : fi_newOnes (d + 3) τ n = some (mx_nn μ r e f, τ, n) := by
    rw [fi_newOnes_e, p4.1, p3.1]
    unfold mx_nn
    by_cases r4 : r = 4
    · rw [if_pos (k1.mpr r4), if_pos r4]
    · rw [if_neg (fun q => r4 (k1.mp q)), if_neg r4]
      by_cases r0 : r = 0
      · rw [if_pos (k2.mpr (Or.inl r0)), if_pos r0, l61]
        subst r0; rfl
      · rw [if_neg (fun q => by have := k2.mp q; omega), if_neg r0, p3.2.1, p3.2.2.1, p3.2.2.2, ak, Option.bind_some]
        show (if mx_fmt μ (mx_i4 μ r e f) = -1 then _ else _) = _
        rcases mx_fmt_r hg (mx_i4 μ r e f) with q | ⟨q, q2, -⟩
        · rw [if_pos q, if_pos q]
        · rw [if_neg (by omega), if_neg (by omega)]
          dsimp only
          rw [show mx_fmt μ ((mx_i4 μ r e f).1, (mx_i4 μ r e f).2.1, (mx_i4 μ r e f).2.2.1, (mx_i4 μ r e f).2.2.2) = mx_fmt μ (mx_i4 μ r e f) from rfl, ix_9 (by omega) (by omega), l61, cc 9 _ (by decide)]
  have nb : 0 ≤ mx_nn μ r e f ∧ mx_nn μ r e f ≤ 2 := by
    unfold mx_nn
    split <;> (try split) <;> (try split) <;> (try split) <;> omega
  rw [fi_hasRoom_e, p1, Option.bind_some, nn, Option.bind_some]
  dsimp only
  have hw : am_w (μ 2 3 + mx_nn μ r e f) = μ 2 3 + mx_nn μ r e f := mx_w_id (by omega) (by omega)
  simp only [cc 2 3 (by decide), hw]
  clear hw
  by_cases z : 64 < μ 2 3 + mx_nn μ r e f
  · rw [if_pos z, decide_eq_false (by omega)]; rfl
  · rw [if_neg z, decide_eq_true (by omega)]; rfl
end
