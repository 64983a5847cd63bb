/-! the NEXT FIRING: the reference -/
theorem mx_wi (e r f : Nat) (he : e < 64) (hr : r < 7) (hf : f < 65) : am_w (am_w (am_w (am_w ((e : Int) * 7) + r) * 65) + f) = ((455 * e + 65 * r + f : Nat) : Int) := by
  rw [mx_w_id (z := (e : Int) * 7) (by omega) (by omega), mx_w_id (z := (e : Int) * 7 + r) (by omega) (by omega), mx_w_id (z := ((e : Int) * 7 + r) * 65) (by omega) (by omega), mx_w_id (by omega) (by omega)]
  omega
theorem mx_wi0 (e : Nat) (he : e < 64) : am_w (am_w (am_w ((e : Int) * 7) * 65) + 64) = ((455 * e + 64 : Nat) : Int) := by
  rw [mx_w_id (z := (e : Int) * 7) (by omega) (by omega), mx_w_id (z := ((e : Int) * 7) * 65) (by omega) (by omega), mx_w_id (by omega) (by omega)]
  omega
section
variable {n : Nat} {μ τ : am_M} {W : Nat → Int}
def mx_rres (μ : am_M) (W : Nat → Int) (τ : am_M) (n : Nat) (x : Option am_R) : Prop := (x = some (0, τ, n) ∧ ∀ e r f, ¬ mx_cd μ W e r f) ∨ ∃ (e r : Nat) (f : Int), x = some (1, am_wr (am_wr (am_wr τ 82 65 e) 82 66 r) 82 67 f, n) ∧ mx_1st μ W e r f
/-- behind tells() -/
def mx_td (μ τ : am_M) : Prop := mx_rl μ τ ∧ ∀ i : Nat, (i : Int) < μ 2 9 → μ 10 i = i → τ 105 i = μ 11 i
theorem mo_fits_s (hg : mx_gd μ) (ht : mx_td μ τ) (d : Nat) (e r f : Nat) (hr1 : 1 ≤ r) (hr : r < 7) (he : (e : Int) < μ 2 3) (hf : (f : Int) < μ 2 3) (hHe : μ 9 e ≠ -1) (hH : μ 9 f ≠ -1) :
    mo_fits (d + 3) e r f τ n = some (mx_b (mx_tk (μ 5 e) r && mx_fp (μ 5) (μ 6) (μ 7) (μ 8) (μ 11) r e f), τ, n) := by
  have h64 := hg.2.1
  have w2 := hg.1.2.1
  obtain ⟨hrl, h105⟩ := ht
  obtain ⟨a1, a2, a3, a4⟩ := hrl.1.1 e he
  obtain ⟨b1, b2, b3, b4⟩ := hrl.1.1 f hf
  obtain ⟨-, y2, y3, y4, y5⟩ := b4 hH
  have s := hg.1.2.2.1.1 f hf hH
  have kf := hg.1.2.2.2.1 f hf
  have ke := hg.1.2.2.2.1 e he
  have cl : ∀ v : Int, 0 ≤ v → v < μ 2 9 → μ 10 v.toNat = v → τ 105 v.toNat = mx_yc (μ 11) v := fun v h0 h1 h2 => by
    unfold mx_yc
    rw [if_pos h0]
    exact h105 _ (by omega) (by omega)
  have l198 : mo_fits_198 (d + 2) e f τ n = some (mx_b (decide (μ 6 f = μ 6 e)), τ, n) := by
    rw [mo_fits_198_e, ix_90 (by omega) (by omega), ix_90 (by omega) (by omega), Int.toNat_natCast, Int.toNat_natCast, a2, b2]
    by_cases q : μ 6 e = μ 6 f
    · rw [if_pos q, decide_eq_true q.symm]; rfl
    · rw [if_neg q, decide_eq_false (fun z => q z.symm)]; rfl
  rw [mo_fits_e, ix_89 (by omega) (by omega), ix_89 (by omega) (by omega), Int.toNat_natCast, Int.toNat_natCast, a1, b1, l198]
  unfold mx_fp mx_tk
  by_cases r1 : r = 1
  · subst r1
    have cr : ((1 : Nat) : Int) = 1 := rfl
    simp only [cr, Nat.reduceEqDiff, Int.reduceEq, or_self, or_true, true_or, or_false, false_or, if_true, if_false]
    by_cases k5 : μ 5 e = 5
    · rw [if_pos k5, decide_eq_true k5, Bool.true_and]
      by_cases l5 : μ 5 f = 5
      · have y := y4 (by omega)
        have sy := s.2.2
        have hy : μ 8 f ≠ -1 := fun q => by have := (kf.2.2.2.2.2 hH).2.mpr q; omega
        have sy' : 0 ≤ μ 8 f ∧ μ 8 f < μ 2 9 ∧ μ 10 (μ 8 f).toNat = μ 8 f := by rcases s.2.2 with q | q; exact absurd q hy; exact q
        rw [if_pos l5, decide_eq_true l5, Bool.true_and, ix_92 (by omega) (by omega), mo_root_r hrl.1 (d + 1) n _ y.1 y.2.1, Option.bind_some, y.2.2]
        dsimp only
        rw [ix_105 (by omega) (by omega), ix_90 (by omega) (by omega), cl _ sy'.1 sy'.2.1 sy'.2.2, a2, mo_isColumn_s, Option.bind_some]
        cases mx_hc (mx_yc (μ 11) (μ 8 f)) (μ 6 e) <;> rfl
      · rw [if_neg l5, decide_eq_false l5]; rfl
    · rw [if_neg k5, decide_eq_false k5]; rfl
  by_cases r2 : r = 2
  · subst r2
    have cr : ((2 : Nat) : Int) = 2 := rfl
    simp only [cr, Nat.reduceEqDiff, Int.reduceEq, or_self, or_true, true_or, or_false, false_or, if_true, if_false]
    by_cases k5 : μ 5 e = 3
    · rw [if_pos k5, decide_eq_true k5, Bool.true_and]
      by_cases l5 : μ 5 f < 5
      · rw [if_pos l5, decide_eq_false (by omega), decide_eq_false (by omega)]; rfl
      · have x := y2 (by omega)
        have hx : μ 7 f ≠ -1 := fun q => by have := (kf.2.2.2.2.2 hH).1.mpr q; omega
        have sx' : 0 ≤ μ 7 f ∧ μ 7 f < μ 2 9 ∧ μ 10 (μ 7 f).toNat = μ 7 f := by rcases s.2.1 with q | q; exact absurd q hx; exact q
        have hk : (decide (μ 5 f = 5) || decide (μ 5 f = 6)) = true := by
          rcases kf.1 with q | q | q | q | q
          · omega
          · omega
          · omega
          · rw [decide_eq_true q]; rfl
          · rw [decide_eq_true q, Bool.or_true]
        rw [if_neg l5, hk, Bool.true_and, ix_91 (by omega) (by omega), mo_root_r hrl.1 (d + 1) n _ x.1 x.2.1, Option.bind_some, x.2.2]
        dsimp only
        rw [ix_105 (by omega) (by omega), ix_90 (by omega) (by omega), cl _ sx'.1 sx'.2.1 sx'.2.2, a2, mo_isColumn_s, Option.bind_some]
        cases mx_hc (mx_yc (μ 11) (μ 7 f)) (am_w (Int.tdiv (μ 6 e) 2)) <;> rfl
    · rw [if_neg k5, decide_eq_false k5]; rfl
  by_cases r3 : r = 3
  · subst r3
    have cr : ((3 : Nat) : Int) = 3 := rfl
    simp only [cr, Nat.reduceEqDiff, Int.reduceEq, or_self, or_true, true_or, or_false, false_or, if_true, if_false]
    by_cases k5 : μ 5 e = 3
    · rw [if_pos k5, decide_eq_true k5, Bool.true_and]
      by_cases l5 : μ 5 f = 3
      · rw [if_pos l5, decide_eq_true l5, Bool.true_and, ix_90 (by omega) (by omega), ix_90 (by omega) (by omega), a2, b2]
        by_cases q : μ 6 e = μ 6 f
        · rw [if_pos q, decide_eq_true q.symm]; rfl
        · rw [if_neg q, decide_eq_false (fun z => q z.symm)]; rfl
      · rw [if_neg l5, decide_eq_false l5]; rfl
    · rw [if_neg k5, decide_eq_false k5]; rfl
  by_cases r4 : r = 4
  · subst r4
    have cr : ((4 : Nat) : Int) = 4 := rfl
    simp only [cr, Nat.reduceEqDiff, Int.reduceEq, or_self, or_true, true_or, or_false, false_or, if_true, if_false]
    by_cases q : μ 5 e = μ 5 f
    · rw [if_pos q, decide_eq_true q.symm, Bool.true_and]
      by_cases k3 : μ 5 e = 3
      · rw [if_pos k3, decide_eq_true (Or.inl k3), Bool.true_and]
      · rw [if_neg k3]
        by_cases k4 : μ 5 e = 4
        · rw [if_pos k4, decide_eq_true (Or.inr k4), Bool.true_and]
        · rw [if_neg k4, decide_eq_false (by omega)]; rfl
    · rw [if_neg q, decide_eq_false (show ¬ (μ 5 f = μ 5 e) from fun z => q z.symm), Bool.false_and, Bool.and_false]; rfl
  by_cases r5 : r = 5
  · subst r5
    have cr : ((5 : Nat) : Int) = 5 := rfl
    simp only [cr, Nat.reduceEqDiff, Int.reduceEq, or_self, or_true, true_or, or_false, false_or, if_true, if_false]
    by_cases k5 : μ 5 e = 4
    · rw [if_pos k5, decide_eq_true k5, Bool.true_and]
      by_cases l5 : μ 5 f = 3
      · rw [if_pos l5, decide_eq_true l5, Bool.true_and, ix_90 (by omega) (by omega), ix_90 (by omega) (by omega), a2, b2]
        by_cases q : am_w (Int.tdiv (μ 6 f) 2) = μ 6 e
        · rw [if_pos q, decide_eq_true q]; rfl
        · rw [if_neg q, decide_eq_false q]; rfl
      · rw [if_neg l5, decide_eq_false l5]; rfl
    · rw [if_neg k5, decide_eq_false k5]; rfl
  · have r6 : r = 6 := by omega
    subst r6
    have cr : ((6 : Nat) : Int) = 6 := rfl
    simp only [cr, Nat.reduceEqDiff, Int.reduceEq, or_self, or_true, true_or, or_false, false_or, if_true, if_false]
    by_cases k5 : μ 5 e = 6
    · rw [if_pos k5, decide_eq_true k5, Bool.true_and]
      by_cases l5 : μ 5 f = 6
      · rw [if_pos l5, decide_eq_true l5]; rfl
      · rw [if_neg l5, decide_eq_false l5]; rfl
    · rw [if_neg k5, decide_eq_false k5]; rfl
theorem mo_finds_85_s (hg : mx_gd μ) (ht : mx_td μ τ) (d : Nat) (e r : Nat) (hr1 : 1 ≤ r) (hr : r < 7) (he : (e : Int) < μ 2 3) (hHe : μ 9 e ≠ -1) : ∀ (k f : Nat), (f : Int) + k = μ 2 3 → (∀ f', mx_cd μ (τ 96) e r f' → ¬ f' < f) →
    (mo_finds_85 (d + 3) e r f τ n = mo_finds_28 (d + 3) e ((r + 1 : Nat) : Int) τ n ∧ ∀ f', ¬ mx_cd μ (τ 96) e r f') ∨ ∃ f' : Nat, mo_finds_85 (d + 3) e r f τ n = some (1, am_wr (am_wr (am_wr τ 82 65 e) 82 66 r) 82 67 f', n) ∧ mx_cd μ (τ 96) e r f' ∧ ∀ f2, mx_cd μ (τ 96) e r f2 → ¬ f2 < f' := by
  have h64 := hg.2.1
  have hrl := ht.1
  have c82 : τ 82 1 = μ 2 3 := hrl.1.2.2.1
  obtain ⟨a1, a2, a3, a4⟩ := hrl.1.1 e he
  intro k
  induction k with
  | zero =>
    intro f hk hno
    refine Or.inl ⟨by rw [mo_finds_85_e, if_neg (by omega), mx_w_nat (by omega)], fun f' hcd => ?_⟩
    have h1 := hno f' hcd
    obtain ⟨-, -, -, -, z | ⟨-, f2, e1, e2, -⟩⟩ := hcd <;> omega
  | succ k ih =>
    intro f hk hno
    have hf : (f : Int) < μ 2 3 := by omega
    obtain ⟨b1, b2, b3, b4⟩ := hrl.1.1 f hf
    have go : ¬ mx_cd μ (τ 96) e r f → (mo_finds_85 (d + 3) e r ((f + 1 : Nat) : Int) τ n = mo_finds_28 (d + 3) e ((r + 1 : Nat) : Int) τ n ∧ ∀ f', ¬ mx_cd μ (τ 96) e r f') ∨ ∃ f' : Nat, mo_finds_85 (d + 3) e r ((f + 1 : Nat) : Int) τ n = some (1, am_wr (am_wr (am_wr τ 82 65 e) 82 66 r) 82 67 f', n) ∧ mx_cd μ (τ 96) e r f' ∧ ∀ f2, mx_cd μ (τ 96) e r f2 → ¬ f2 < f' := fun hn => ih (f + 1) (by omega) fun f' hcd => by
      have h1 := hno f' hcd
      have hcd' := hcd
      obtain ⟨-, -, -, -, z | ⟨-, f2, e1, e2, -⟩⟩ := hcd
      · omega
      · by_cases q : f2 = f
        · subst q; rw [e1] at hcd'; exact absurd hcd' hn
        · omega
    rw [mo_finds_85_e, if_pos (by omega), ix_89 (by omega) (by omega), Int.toNat_natCast, a1, mx_w_nat (e := r) (by omega), mx_w_nat (e := f) (by omega)]
    by_cases k1 : μ 5 e = 1
    · rw [if_pos k1]
      refine Or.inl ⟨rfl, fun f' hcd => ?_⟩
      have tk := hcd.2.2.2.1
      rw [k1] at tk
      unfold mx_tk at tk
      revert tk
      have : r = 1 ∨ r = 2 ∨ r = 3 ∨ r = 4 ∨ r = 5 ∨ r = 6 := by omega
      rcases this with q | q | q | q | q | q <;> subst q <;> decide
    · rw [if_neg k1, ix_95 (by omega) (by omega), Int.toNat_natCast, b3]
      by_cases hH : μ 9 f = -1
      · rw [if_pos hH, if_neg (by decide)]
        refine go fun hcd => ?_
        obtain ⟨-, -, -, -, z | ⟨-, f2, e1, e2, e3, -⟩⟩ := hcd
        · omega
        · have : f2 = f := by omega
          subst this
          have := (hg.1.2.2.2.1 e he).2.2.2.2.2 hHe
          exact k1 (this.1.mpr (by rw [← e3]; exact hH))
      · rw [if_neg hH, if_pos rfl]
        obtain ⟨q1, -⟩ := b4 hH
        have x := (a4 hHe).2.1 k1
        rw [ix_93 (by omega) (by omega), mo_root_r hrl.1 (d + 2) n _ q1.1 q1.2.1, Option.bind_some, ix_91 (by omega) (by omega)]
        dsimp only
        rw [mo_root_r hrl.1 (d + 2) n _ x.1 x.2.1, Option.bind_some, q1.2.2, x.2.2]
        by_cases hx : μ 9 f = μ 7 e
        · rw [if_pos hx, mo_fits_s hg ht d e r f hr1 hr he hf hHe hH, Option.bind_some]
          cases hb : (mx_tk (μ 5 e) r && mx_fp (μ 5) (μ 6) (μ 7) (μ 8) (μ 11) r e f) with
          | false =>
            refine go fun hcd => ?_
            obtain ⟨-, -, -, z0, z | ⟨-, f2, e1, e2, e3, e4, -⟩⟩ := hcd
            · omega
            · have : f2 = f := by omega
              subst this
              rw [z0, e4] at hb; cases hb
          | true =>
            rw [Bool.and_eq_true] at hb
            dsimp only
            rw [mx_bT, mx_wi e r f (by omega) (by omega) (by omega), ix_96 (by omega) (by omega), Int.toNat_natCast]
            by_cases w0 : τ 96 (455 * e + 65 * r + f) = 0
            · rw [if_pos w0]
              refine Or.inr ⟨f, rfl, ⟨he, hHe, hr, hb.1, Or.inr ⟨hr1, f, rfl, hf, hx, hb.2, w0⟩⟩, fun f2 hcd hlt => hno f2 hcd hlt⟩
            · rw [if_neg w0]
              refine go fun hcd => ?_
              obtain ⟨-, -, -, -, z | ⟨-, f2, e1, e2, e3, e4, e5⟩⟩ := hcd
              · omega
              · have : f2 = f := by omega
                subst this
                exact w0 e5
        · rw [if_neg hx]
          refine go fun hcd => ?_
          obtain ⟨-, -, -, -, z | ⟨-, f2, e1, e2, e3, -⟩⟩ := hcd
          · omega
          · have : f2 = f := by omega
            subst this
            exact hx e3
theorem mo_finds_6_s (hg : mx_gd μ) (ht : mx_td μ τ) (d : Nat) : ∀ (k e : Nat), (e : Int) + k = μ 2 3 → (∀ e' r' f', mx_cd μ (τ 96) e' r' f' → ¬ e' < e) → mx_rres μ (τ 96) τ n (mo_finds_6 (d + 3) e τ n) := by
  have h64 := hg.2.1
  have hrl := ht.1
  have c82 : τ 82 1 = μ 2 3 := hrl.1.2.2.1
  intro k
  induction k with
  | zero =>
    intro e hk hno
    refine Or.inl ⟨by rw [mo_finds_6_e, if_neg (by omega)], fun e' r' f' hcd => ?_⟩
    have := hno e' r' f' hcd
    have := hcd.1
    omega
  | succ k ih =>
    intro e hk hno
    have he : (e : Int) < μ 2 3 := by omega
    obtain ⟨a1, a2, a3, a4⟩ := hrl.1.1 e he
    have nextE : (∀ r' f', ¬ mx_cd μ (τ 96) e r' f') → mx_rres μ (τ 96) τ n (mo_finds_6 (d + 3) ((e + 1 : Nat) : Int) τ n) := fun hn' => ih (e + 1) (by omega) fun e' r' f' hcd => by
      have := hno e' r' f' hcd
      by_cases q : e' = e
      · subst q; exact absurd hcd (hn' r' f')
      · omega
    rw [mo_finds_6_e, if_pos (by omega), ix_95 (by omega) (by omega), Int.toNat_natCast, a3, mx_w_nat (by omega)]
    by_cases hH : μ 9 e = -1
    · rw [if_pos hH, if_neg (by decide)]
      exact nextE fun r' f' hcd => hcd.2.1 hH
    · rw [if_neg hH, if_pos rfl]
      have l28 : ∀ (t r : Nat), r + t = 7 → (∀ r' f', mx_cd μ (τ 96) e r' f' → ¬ r' < r) → mx_rres μ (τ 96) τ n (mo_finds_28 (d + 3) e r τ n) := by
        intro t
        induction t with
        | zero =>
          intro r ht' hr
          rw [mo_finds_28_e, if_neg (by omega), mx_w_nat (by omega)]
          exact nextE fun r' f' hcd => by have := hr r' f' hcd; have := hcd.2.2.1; omega
        | succ t iht =>
          intro r ht' hr
          have nextR : (∀ f', ¬ mx_cd μ (τ 96) e r f') → mx_rres μ (τ 96) τ n (mo_finds_28 (d + 3) e ((r + 1 : Nat) : Int) τ n) := fun hno2 => iht (r + 1) (by omega) fun r' f' hcd => by
            have := hr r' f' hcd
            by_cases q : r' = r
            · subst q; exact absurd hcd (hno2 f')
            · omega
          have found : ∀ f : Int, mx_cd μ (τ 96) e r f → (∀ f2, mx_cd μ (τ 96) e r f2 → ¬ f2 < f) → mx_1st μ (τ 96) e r f := fun f h1 h2 => ⟨h1, fun e' r' f' hcd hlt => by
            unfold mx_ltc at hlt
            rcases hlt with z | ⟨z1, z | ⟨z2, z3⟩⟩
            · exact hno e' r' f' hcd z
            · subst z1; exact hr r' f' hcd z
            · subst z1; subst z2; exact h2 f' hcd z3⟩
          rw [mo_finds_28_e, if_pos (by omega), mx_w_nat (e := r) (by omega)]
          by_cases r0 : r = 0
          · subst r0
            rw [if_pos (show ((0 : Nat) : Int) = 0 from rfl), ix_89 (by omega) (by omega), Int.toNat_natCast, a1, mx_wi0 e (by omega)]
            by_cases k5 : μ 5 e = 5
            · rw [if_pos k5, ix_96 (by omega) (by omega), Int.toNat_natCast]
              by_cases w0 : τ 96 (455 * e + 64) = 0
              · rw [if_pos w0]
                refine Or.inr ⟨e, 0, -1, rfl, found (-1) ⟨he, hH, by decide, by unfold mx_tk; rw [if_pos (Or.inl rfl)]; exact decide_eq_true k5, Or.inl ⟨rfl, rfl, w0⟩⟩ fun f2 hcd => ?_⟩
                obtain ⟨-, -, -, -, z | ⟨z, -⟩⟩ := hcd <;> omega
              · rw [if_neg w0]
                refine nextR fun f' hcd => ?_
                obtain ⟨-, -, -, -, z | ⟨z, -⟩⟩ := hcd
                · exact w0 z.2.2
                · omega
            · rw [if_neg k5]
              refine nextR fun f' hcd => ?_
              have := hcd.2.2.2.1
              unfold mx_tk at this
              rw [if_pos (Or.inl rfl)] at this
              exact k5 (of_decide_eq_true this)
          · rw [if_neg (by omega)]
            rcases mo_finds_85_s (n := n) hg ht d e r (by omega) (by omega) he hH (μ 2 3).toNat 0 (by omega) (fun f' hcd => by
              obtain ⟨-, -, -, -, z | ⟨-, f2, e1, -⟩⟩ := hcd <;> omega) with ⟨p1, p2⟩ | ⟨f', p1, p2, p3⟩
            · rw [show mo_finds_85 (d + 3) e r 0 τ n = _ from p1]
              exact nextR p2
            · rw [show mo_finds_85 (d + 3) e r 0 τ n = _ from p1]
              exact Or.inr ⟨e, r, f', rfl, found f' p2 p3⟩
      exact l28 7 0 (by decide) (fun r' f' _ => by omega)
theorem mo_finds_s (hg : mx_gd μ) (hr : mx_rl μ τ) (d : Nat) : ∃ τ1 : am_M, mx_Fr [104, 105, 106] τ τ1 ∧ mx_rl μ τ1 ∧ mx_rres μ (τ 96) τ1 n (mo_finds (d + 4) τ n) := by
  have w2 := hg.1.2.1
  obtain ⟨τ1, p1, p2, p3⟩ := mo_tells_s hg.1 hr.1 hr.2 (d + 1) n
  have hr1 : mx_rl μ τ1 := mx_rl_fr hr (fun i j a b => congrFun (p2 i (by simp only [List.mem_cons, List.not_mem_nil, or_false, not_or]; omega)) j) (fun j _ => congrFun (p2 82 (by decide)) j)
  refine ⟨τ1, p2, hr1, ?_⟩
  rw [mo_finds_e, p1, Option.bind_some]
  have := mo_finds_6_s (n := n) hg (⟨hr1, fun i hi hT => (p3 i hi hT).2.1⟩ : mx_td μ τ1) d (μ 2 3).toNat 0 (by omega) (fun e' r' f' _ => by omega)
  rw [p2 96 (by decide)] at this
  exact this
end
