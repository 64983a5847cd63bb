/-! PLANS: nodes one by one; the class counts them -/
section
variable {n : Nat} {μ : am_M} {al : Int} {c : Nat → Int}
def mx_gn (μ : am_M) (al : Int) (c : Nat → Int) (x : Nat × mx_wt) : Prop := mx_dd μ x.1 ∧ c x.1 ≤ 1000000000000 ∧ mx_pick1 μ al c x.1 = some x.2
/-- each node heads its own -/
def mx_np (μ : am_M) (al : Int) (c : Nat → Int) (L : List (Nat × mx_wt)) : Prop := ∀ (i : Nat) (x : Nat × mx_wt), L[i]? = some x → mx_gn μ al c x ∧ ∃ r, L.drop i = mx_nds μ al c x.1 ++ r
theorem mx_np_app {A B : List (Nat × mx_wt)} (h1 : mx_np μ al c A) (h2 : mx_np μ al c B) : mx_np μ al c (A ++ B) := fun i x hx => by
  by_cases q : i < A.length
  · rw [List.getElem?_append_left q] at hx
    obtain ⟨g, r, hr⟩ := h1 i x hx
    exact ⟨g, r ++ B, by rw [List.drop_append_of_le_length (by omega), hr, List.append_assoc]⟩
  · rw [List.getElem?_append_right (by omega)] at hx
    obtain ⟨g, r, hr⟩ := h2 _ x hx
    refine ⟨g, r, ?_⟩
    rw [← hr, List.drop_append, List.drop_eq_nil_of_le (by omega), List.nil_append]
theorem mx_nds_np (hg : mx_gd μ) (hs : mx_sol μ al c) : ∀ (C d : Nat), c d ≤ C → mx_dd μ d → c d ≤ 1000000000000 → mx_np μ al c (mx_nds μ al c d) := by
  intro C
  induction C with
  | zero =>
    intro d hC hd hc
    have := (hs d hd).1.1
    omega
  | succ C ih =>
    intro d hC hd hc
    obtain ⟨w, w1, w2, w3, w4, w5⟩ := mx_pick1_s hg hs hd hc
    have en := mx_nds_e hg hs hd hc w1
    have one : ∀ v, (v = w.2.2.1 ∨ v = w.2.2.2.1) → mx_np μ al c (mx_nds μ al c v) := fun v hv => by
      by_cases nv : v = -1
      · rw [nv]; intro i x hx; cases hx
      · obtain ⟨j, j1, j2, j3, j4, j5⟩ := w5 v hv nv
        rw [j1]
        exact ih j (by omega) j2 (by omega)
    have ab := mx_np_app (one _ (Or.inl rfl)) (one _ (Or.inr rfl))
    intro i x hx
    cases i with
    | zero =>
      rw [en] at hx
      cases hx
      exact ⟨⟨hd, hc, w1⟩, [], by rw [List.drop_zero, List.append_nil]⟩
    | succ i =>
      rw [en, List.getElem?_cons_succ] at hx
      obtain ⟨g, r, hr⟩ := ab i x hx
      exact ⟨g, r, by rw [en, List.drop_succ_cons]; exact hr⟩
/-- the first node of an input -/
theorem mx_nds_hd (hg : mx_gd μ) (hs : mx_sol μ al c) {d : Nat} (hd : mx_dd μ d) (hc : c d ≤ 1000000000000) : ∃ w t, mx_nds μ al c d = (d, w) :: t := by
  obtain ⟨w, w1, -⟩ := mx_pick1_s hg hs hd hc
  exact ⟨w, _, mx_nds_e hg hs hd hc w1⟩
theorem mx_wadd {a b : Nat} (h : a + b < 1000) : am_w ((a : Int) + (b : Int)) = ((a + b : Nat) : Int) := by rw [mx_w_id (by omega) (by omega)]; rfl
theorem pl_inputsOf_s (dp : Nat) (v : Int) (σ : am_M) : pl_inputsOf (dp + 1) v σ n = some (mx_ar v, σ, n) := by
  rw [pl_inputsOf_e]
  unfold mx_ar
  (repeat' split) <;> first | rfl | omega
theorem pl_fact_s (dp p i k : Nat) (hp : p = 58 ∨ p = 62) (hi : i < 120) (hk : k < 8) (σ : am_M) : pl_fact (dp + 1) p i k σ n = some (σ (p + 1) (8 * i + k), σ, n) := by
  have e : am_w (am_w ((i : Int) * 8) + (k : Int)) = ((8 * i + k : Nat) : Int) := by rw [mx_w_id (z := (i : Int) * 8) (by omega) (by omega), mx_w_id (by omega) (by omega)]; omega
  have p0 : ¬ (p : Int) < 0 := by omega
  rw [pl_fact_e, mx_if_t p0, Int.toNat_natCast, (mx_finP hp).1, e, (mx_ixP hp (by omega)).1 (by omega), Int.toNat_natCast, Int.toNat_natCast]
/-- how many inputs the node of a way has -/
theorem mx_ar_w (hg : mx_gd μ) {d : Nat} (hd : mx_dd μ d) {w : mx_wt} (h : w ∈ mx_wl μ al d) : (mx_ar w.1 = 0 ∧ w.2.2.1 = -1 ∧ w.2.2.2.1 = -1) ∨ (mx_ar w.1 = 1 ∧ w.2.2.1 ≠ -1 ∧ w.2.2.2.1 = -1) ∨ (mx_ar w.1 = 2 ∧ w.2.2.1 ≠ -1 ∧ w.2.2.2.1 ≠ -1) := by
  have h1 : mx_ar 1 = 0 ∧ mx_ar 2 = 1 ∧ mx_ar 8 = 1 ∧ mx_ar 9 = 1 ∧ mx_ar 10 = 1 ∧ mx_ar 11 = 1 ∧ mx_ar 4 = 2 ∧ mx_ar 5 = 2 ∧ mx_ar 6 = 2 := by decide
  obtain ⟨k1, k2, k8, k9, k10, k11, k4, k5, k6⟩ := h1
  rcases mx_wl_by hg hd h with ⟨-, q, q1, q2⟩ | ⟨e, -, -, -, q⟩
  · rcases q with q | q <;> rw [q]
    · exact Or.inr (Or.inl ⟨k10, q1, q2⟩)
    · exact Or.inr (Or.inl ⟨k11, q1, q2⟩)
  · rcases q with ⟨q, -, q1, q2⟩ | ⟨q, -, q1, q2⟩ | ⟨q, -, q1, q2⟩ | ⟨q, -, q1, q2⟩
    · rw [q]; exact Or.inl ⟨k1, q1, q2⟩
    · rw [q]; exact Or.inr (Or.inl ⟨k2, q1, q2⟩)
    · rcases q with q | q <;> rw [q]
      · exact Or.inr (Or.inl ⟨k8, q1, q2⟩)
      · exact Or.inr (Or.inl ⟨k9, q1, q2⟩)
    · rcases q with q | q | q <;> rw [q]
      · exact Or.inr (Or.inr ⟨k4, q1, q2⟩)
      · exact Or.inr (Or.inr ⟨k5, q1, q2⟩)
      · exact Or.inr (Or.inr ⟨k6, q1, q2⟩)
/-- what stands in front of a list of nodes -/
theorem mx_np_at (hg : mx_gd μ) (hs : mx_sol μ al c) {N : List (Nat × mx_wt)} (hN : mx_np μ al c N) {i : Nat} {x : Nat × mx_wt} (hx : N[i]? = some x) :
    (mx_nds μ al c x.1).length = 1 + (mx_nds μ al c x.2.2.2.1).length + (mx_nds μ al c x.2.2.2.2.1).length ∧
    ((mx_ar x.2.1 = 0 ∧ x.2.2.2.1 = -1 ∧ x.2.2.2.2.1 = -1) ∨ (mx_ar x.2.1 = 1 ∧ x.2.2.2.1 ≠ -1 ∧ x.2.2.2.2.1 = -1) ∨ (mx_ar x.2.1 = 2 ∧ x.2.2.2.1 ≠ -1 ∧ x.2.2.2.2.1 ≠ -1)) ∧
    (x.2.2.2.1 ≠ -1 → ∃ y, N[i + 1]? = some y ∧ mx_nds μ al c x.2.2.2.1 = mx_nds μ al c y.1) ∧
    (x.2.2.2.2.1 ≠ -1 → ∃ y, N[i + 1 + (mx_nds μ al c x.2.2.2.1).length]? = some y ∧ mx_nds μ al c x.2.2.2.2.1 = mx_nds μ al c y.1) := by
  obtain ⟨⟨g1, g2, g3⟩, r, hr⟩ := hN i x hx
  obtain ⟨w, w1, w2, w3, w4, w5⟩ := mx_pick1_s hg hs g1 g2
  rw [g3] at w1
  cases w1
  have en := mx_nds_e hg hs g1 g2 g3
  have at' : ∀ a, N[i + a]? = (mx_nds μ al c x.1 ++ r)[a]? := fun a => by rw [← hr, List.getElem?_drop]
  refine ⟨by rw [en, List.length_cons, List.length_append]; omega, mx_ar_w hg g1 w2, fun nv => ?_, fun nv => ?_⟩
  · obtain ⟨j, j1, j2, j3, j4, j5⟩ := w5 _ (Or.inl rfl) nv
    obtain ⟨w', t, ht⟩ := mx_nds_hd hg hs j2 (show c j ≤ 1000000000000 by omega)
    refine ⟨(j, w'), ?_, by rw [j1]⟩
    rw [at' 1, en, j1, ht]
    rfl
  · obtain ⟨j, j1, j2, j3, j4, j5⟩ := w5 _ (Or.inr rfl) nv
    obtain ⟨w', t, ht⟩ := mx_nds_hd hg hs j2 (show c j ≤ 1000000000000 by omega)
    refine ⟨(j, w'), ?_, by rw [j1]⟩
    rw [show i + 1 + (mx_nds μ al c x.2.2.2.1).length = i + ((mx_nds μ al c x.2.2.2.1).length + 1) by omega, at', en, List.cons_append, List.getElem?_cons_succ, List.append_assoc, List.getElem?_append_right (Nat.le_refl _), Nat.sub_self, j1, ht]
    rfl
/-- countNodes() -/
theorem pl_countNodes_7_s (hg : mx_gd μ) (hs : mx_sol μ al c) {p : Nat} (hp : p = 58 ∨ p = 62) (dp : Nat) {N : List (Nat × mx_wt)} (hN : mx_np μ al c N) (h120 : N.length ≤ 120) : ∀ (i : Nat) (σ : am_M), i ≤ N.length → σ p 3 = N.length → (∀ j x, N[j]? = some x → σ (p + 1) (8 * j) = x.2.1) → (∀ j x, i ≤ j → N[j]? = some x → σ (p + 1) (8 * j + 6) = ((mx_nds μ al c x.1).length : Nat)) →
    ∃ σ' : am_M, pl_countNodes_7 (dp + 1) p ((i : Int) - 1) σ n = some (0, σ', n) ∧ (∀ a x, (a = p + 1 → ∀ j, j < N.length → x ≠ 8 * j + 6) → σ' a x = σ a x) ∧ ∀ j x, N[j]? = some x → σ' (p + 1) (8 * j + 6) = ((mx_nds μ al c x.1).length : Nat) := by
  have p0 : ¬ (p : Int) < 0 := by omega
  intro i
  induction i with
  | zero =>
    intro σ hi h3 h0 h6
    refine ⟨σ, ?_, fun _ _ _ => rfl, fun j x hx => h6 j x (Nat.zero_le _) hx⟩
    rw [pl_countNodes_7_e, if_pos (by omega)]
  | succ i ih =>
    intro σ hi h3 h0 h6
    obtain ⟨x, hx⟩ : ∃ x, N[i]? = some x := ⟨N[i], List.getElem?_eq_getElem (by omega)⟩
    obtain ⟨l, ar, f1, f2⟩ := mx_np_at hg hs hN hx
    have hix : i < N.length := by omega
    have dl : (mx_nds μ al c x.1).length ≤ 120 := by
      obtain ⟨-, r, hr⟩ := hN i x hx
      have := congrArg List.length hr
      rw [List.length_drop, List.length_append] at this
      omega
    have ei : ((i + 1 : Nat) : Int) - 1 = (i : Int) := by omega
    have e6 : am_w (am_w ((i : Int) * 8) + 6) = ((8 * i + 6 : Nat) : Int) := by rw [mx_w_id (z := (i : Int) * 8) (by omega) (by omega), mx_w_id (by omega) (by omega)]; omega
    have em : am_w ((i : Int) + (-1)) = (i : Int) - 1 := by rw [mx_w_id (by omega) (by omega)]; omega
    -- what is written at the end
    have fin : ∀ v2 v3 v4 : Int, ¬ v4 < v3 → v2 = ((mx_nds μ al c x.1).length : Nat) → ∃ σ' : am_M, pl_countNodes_26 (dp + 1) p i v2 v3 v4 σ n = some (0, σ', n) ∧ (∀ a x, (a = p + 1 → ∀ j, j < N.length → x ≠ 8 * j + 6) → σ' a x = σ a x) ∧ ∀ j x, N[j]? = some x → σ' (p + 1) (8 * j + 6) = ((mx_nds μ al c x.1).length : Nat) := fun v2 v3 v4 h4 h2 => by
      obtain ⟨σ1, hσ1⟩ : ∃ σ1, σ1 = am_wr σ (p + 1) (8 * i + 6) v2 := ⟨_, rfl⟩
      have o1 : ∀ a y, (a = p + 1 → y ≠ 8 * i + 6) → σ1 a y = σ a y := fun a y q => by
        rw [hσ1]
        unfold am_wr
        rw [if_neg (fun z => q z.1 z.2)]
      obtain ⟨σ', a1, a2, a3⟩ := ih σ1 (by omega) (by rw [o1 p 3 (by omega)]; exact h3) (fun j y hy => by rw [o1 _ _ (by omega)]; exact h0 j y hy) (fun j y hj hy => by
        by_cases z : j = i
        · rw [z] at hy ⊢
          rw [hx] at hy
          cases hy
          rw [hσ1, mx_wr_at]; exact h2
        · rw [o1 _ _ (by omega)]; exact h6 j y (by omega) hy)
      refine ⟨σ', ?_, fun a y q => (a2 a y q).trans (o1 a y (fun z => q z i hix)), a3⟩
      rw [pl_countNodes_26_e, if_neg h4, mx_if_t p0, Int.toNat_natCast, (mx_finP hp).1, e6, (mx_ixP hp (by omega)).1 (by omega), mx_m, Int.toNat_natCast, Int.toNat_natCast, ← hσ1, em]
      exact a1
    -- one more input
    have step : ∀ (a : Nat) (v3 v4 : Nat) (y : Nat × mx_wt), v4 < v3 → v4 < 5 → 1 ≤ a → N[i + a]? = some y → pl_countNodes_26 (dp + 1) p i a v3 v4 σ n = pl_countNodes_26 (dp + 1) p i ((a + (mx_nds μ al c y.1).length : Nat) : Int) v3 ((v4 + 1 : Nat) : Int) σ n := fun a v3 v4 y q q5 qa hy => by
      clear fin e6 em ei
      have la : i + a < N.length := (List.getElem?_eq_some_iff.mp hy).1
      have ly : (mx_nds μ al c y.1).length ≤ 120 := by
        obtain ⟨-, r, hr⟩ := hN _ y hy
        have := congrArg List.length hr
        rw [List.length_drop, List.length_append] at this
        omega
      have b4 : (v4 : Int) < 1000 := by omega
      have b43 : (v4 : Int) < (v3 : Int) := by omega
      have ia120 : i + a < 120 := by omega
      have ia1 : ((i + a : Nat) : Int) < σ p 3 := by rw [h3]; omega
      have i1a : i + 1 ≤ i + a := by omega
      have ba : i + a < 1000 := by omega
      have b2 : a + (mx_nds μ al c y.1).length < 1000 := by omega
      have ea : am_w ((i : Int) + (a : Int)) = ((i + a : Nat) : Int) := mx_wadd ba
      have fv := h6 (i + a) y i1a hy
      have e2 : am_w ((a : Int) + ((mx_nds μ al c y.1).length : Nat)) = ((a + (mx_nds μ al c y.1).length : Nat) : Int) := mx_wadd b2
      rw [pl_countNodes_26_e, if_pos b43, mx_if_t p0, ea, Int.toNat_natCast, if_pos ia1, mx_if_t p0, show pl_fact (dp + 1) p ((i + a : Nat) : Int) 6 σ n = _ from pl_fact_s dp p (i + a) 6 hp ia120 (by decide) σ, Option.bind_some]
      dsimp only
      rw [fv, e2, mx_w_nat b4]
    have go : pl_countNodes_7 (dp + 1) p (((i + 1 : Nat) : Int) - 1) σ n = pl_countNodes_26 (dp + 1) p i ((1 : Nat) : Int) (mx_ar x.2.1) ((0 : Nat) : Int) σ n := by
      rw [ei, pl_countNodes_7_e, if_neg (by omega), mx_if_t p0, show pl_fact (dp + 1) p (i : Int) 0 σ n = _ from pl_fact_s dp p i 0 hp (by omega) (by decide) σ, Option.bind_some]
      dsimp only
      rw [Nat.add_zero (8 * i), h0 i x hx, pl_inputsOf_s, Option.bind_some]
      rfl
    rw [go]
    rcases ar with ⟨a0, a1, a2⟩ | ⟨a0, a1, a2⟩ | ⟨a0, a1, a2⟩
    · rw [a0]
      rw [a1, a2] at l
      exact fin _ _ _ (by decide) (by rw [l]; rfl)
    · obtain ⟨y, y1, y2⟩ := f1 a1
      rw [a0]
      rw [a2] at l
      rw [show (1 : Int) = ((1 : Nat) : Int) from rfl, step 1 1 0 y (by decide) (by decide) (by decide) y1]
      exact fin _ _ _ (by omega) (by rw [l, y2]; rfl)
    · obtain ⟨y, y1, y2⟩ := f1 a1
      obtain ⟨z, z1, z2⟩ := f2 a2
      rw [y2] at l z1
      rw [z2] at l
      rw [a0, show (2 : Int) = ((2 : Nat) : Int) from rfl, step 1 2 0 y (by decide) (by decide) (by decide) y1, step _ 2 1 z (by decide) (by decide) (by omega) (by rw [← Nat.add_assoc]; exact z1)]
      exact fin _ _ _ (by omega) (by rw [l])
theorem pl_countNodes_s (hg : mx_gd μ) (hs : mx_sol μ al c) {p : Nat} (hp : p = 58 ∨ p = 62) (dp : Nat) {N : List (Nat × mx_wt)} (hN : mx_np μ al c N) (h120 : N.length ≤ 120) (σ : am_M) (h3 : σ p 3 = N.length) (h0 : ∀ j x, N[j]? = some x → σ (p + 1) (8 * j) = x.2.1) :
    ∃ σ' : am_M, pl_countNodes (dp + 2) p σ n = some (0, σ', n) ∧ (∀ a x, (a = p + 1 → ∀ j, j < N.length → x ≠ 8 * j + 6) → σ' a x = σ a x) ∧ ∀ j x, N[j]? = some x → σ' (p + 1) (8 * j + 6) = ((mx_nds μ al c x.1).length : Nat) := by
  have p0 : ¬ (p : Int) < 0 := by omega
  obtain ⟨σ', a1, a2, a3⟩ := pl_countNodes_7_s (n := n) hg hs hp dp hN h120 N.length σ (Nat.le_refl _) h3 h0 (fun j x hj hx => by
    have := (List.getElem?_eq_some_iff.mp hx).1
    omega)
  refine ⟨σ', ?_, a2, a3⟩
  rw [pl_countNodes_e, mx_if_t p0, Int.toNat_natCast, h3, mx_w_id (by omega) (by omega)]
  exact a1
end
