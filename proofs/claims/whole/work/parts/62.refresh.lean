/-! rows of numbers are filled -/
theorem ar_fill_5_s (d n : Nat) (c L : Nat) (v : Int) (hc : c < 1000) (hl : am_len c = L) (hL : (L : Int) < 100000) : ∀ (t i : Nat) (σ : am_M), i + t = L → ∃ σ' : am_M, ar_fill_5 d c v i L σ n = some (0, σ', n) ∧ mx_Fr [c] σ σ' ∧ (∀ j : Nat, i ≤ j → j < L → σ' c j = v) ∧ ∀ j : Nat, (j < i ∨ L ≤ j) → σ' c j = σ c j := by
  intro t
  induction t with
  | zero =>
    intro i σ hi
    exact ⟨σ, by rw [ar_fill_5_e, if_neg (by omega)], mx_fr_rf, fun j h1 h2 => by omega, fun j _ => rfl⟩
  | succ t ih =>
    intro i σ hi
    obtain ⟨σ', p1, p2, p3, p4⟩ := ih (i + 1) (am_wr σ c i v) (by omega)
    refine ⟨σ', ?_, mx_fr_tr mx_fr_w1 p2, fun j h1 h2 => ?_, fun j h => ?_⟩
    · rw [ar_fill_5_e, if_pos (by omega), mx_ix_t (r := (c : Int)) (L := L) (by omega) (by rw [Int.toNat_natCast]; exact hl) (by omega) (by omega)]
      dsimp only [am_m]
      rw [Int.toNat_natCast, Int.toNat_natCast, mx_w_id (by omega) (by omega)]
      exact p1
    · by_cases q : j = i
      · rw [p4 j (by omega), q, mx_wr_at]
      · exact p3 j (by omega) h2
    · rw [p4 j (by omega), mx_wr_off (by omega)]
theorem ar_fill_s (d n : Nat) (c L : Nat) (v : Int) (σ : am_M) (hc : c < 1000) (hl : am_len c = L) (hL : (L : Int) < 100000) : ∃ σ' : am_M, ar_fill (d + 1) c v σ n = some (0, σ', n) ∧ mx_Fr [c] σ σ' ∧ (∀ j : Nat, j < L → σ' c j = v) ∧ ∀ j : Nat, L ≤ j → σ' c j = σ c j := by
  obtain ⟨σ', p1, p2, p3, p4⟩ := ar_fill_5_s d n c L v hc hl hL L 0 σ (by omega)
  refine ⟨σ', ?_, p2, fun j h => p3 j (by omega) h, fun j h => p4 j (Or.inr h)⟩
  rw [ar_fill_e, mx_if_t (by omega), Int.toNat_natCast, hl]
  exact p1
theorem ar_fill2_6_s (d n : Nat) (c L : Nat) (v : Int) (hc : c < 1000) (hl : am_len c = L) (hL : (L : Int) < 100000) : ∀ (t i : Nat) (σ : am_M), i + t = L → ∃ σ' : am_M, ar_fill2_6 d c v i L σ n = some (0, σ', n) ∧ mx_Fr [c] σ σ' ∧ (∀ j : Nat, i ≤ j → j < L → σ' c j = v) ∧ ∀ j : Nat, (j < i ∨ L ≤ j) → σ' c j = σ c j := by
  intro t
  induction t with
  | zero =>
    intro i σ hi
    exact ⟨σ, by rw [ar_fill2_6_e, if_neg (by omega)], mx_fr_rf, fun j h1 h2 => by omega, fun j _ => rfl⟩
  | succ t ih =>
    intro i σ hi
    obtain ⟨σ', p1, p2, p3, p4⟩ := ih (i + 1) (am_wr σ c i v) (by omega)
    refine ⟨σ', ?_, mx_fr_tr mx_fr_w1 p2, fun j h1 h2 => ?_, fun j h => ?_⟩
    · rw [ar_fill2_6_e, if_pos (by omega), mx_ix_t (r := (c : Int)) (L := L) (by omega) (by rw [Int.toNat_natCast]; exact hl) (by omega) (by omega)]
      dsimp only [am_m]
      rw [Int.toNat_natCast, Int.toNat_natCast, mx_w_id (by omega) (by omega)]
      exact p1
    · by_cases q : j = i
      · rw [p4 j (by omega), q, mx_wr_at]
      · exact p3 j (by omega) h2
    · rw [p4 j (by omega), mx_wr_off (by omega)]
theorem ar_fill2_s (d n : Nat) (c L : Nat) (v : Int) (σ : am_M) (hc : c < 1000) (hl : am_len c = L) (hL : (L : Int) < 100000) : ∃ σ' : am_M, ar_fill2 (d + 1) c v σ n = some (0, σ', n) ∧ mx_Fr [c] σ σ' ∧ (∀ j : Nat, j < L → σ' c j = v) ∧ ∀ j : Nat, L ≤ j → σ' c j = σ c j := by
  obtain ⟨σ', p1, p2, p3, p4⟩ := ar_fill2_6_s d n c L v hc hl hL L 0 σ (by omega)
  refine ⟨σ', ?_, p2, fun j h => p3 j (by omega) h, fun j h => p4 j (Or.inr h)⟩
  rw [ar_fill2_e, mx_if_t (by omega), Int.toNat_natCast, hl]
  exact p1
/-! the class's memo is well formed -/
def mx_CW (b : Nat) (σ : am_M) : Prop := mx_W (σ b 0) (σ b 3) (σ b 9) (σ (b + 1)) (σ (b + 2)) (σ (b + 3)) (σ (b + 4)) (σ (b + 5)) (σ (b + 6)) (σ (b + 7)) (σ (b + 8)) (σ (b + 9))
def mx_CI (b : Nat) (σ : am_M) : Prop := mx_CW b σ ∧ σ b 3 ≤ 64 ∧ mx_Mb (σ b 3) (σ b 9) (σ (b + 7)) (σ (b + 10))
/-- ROWS as the class has them -/
def mx_cR (σ : am_M) : Nat → Int := mx_Rw (σ 2 3) (σ 3) (σ 4) (σ 5) (σ 6) (σ 7) (σ 8) (σ 9)
def mx_Rv (σ : am_M) : Prop := ∀ i : Nat, i < 64 → σ 30 i = mx_cR σ i
section
variable {σ : am_M}
theorem mx_CI_W (h : mx_CI 2 σ) : mx_W (σ 2 0) (σ 2 3) (σ 2 9) (σ 3) (σ 4) (σ 5) (σ 6) (σ 7) (σ 8) (σ 9) (σ 10) (σ 11) := h.1
theorem mx_CI_M (h : mx_CI 2 σ) : mx_Mb (σ 2 3) (σ 2 9) (σ 9) (σ 12) := h.2.2
theorem mx_CI_b (h : mx_CI 2 σ) : (0 ≤ σ 2 0 ∧ σ 2 0 ≤ 8) ∧ 0 ≤ σ 2 9 ∧ σ 2 9 ≤ σ 2 3 ∧ σ 2 3 ≤ 64 := ⟨h.1.1.1, h.1.2.1.1, h.1.2.1.2.1, h.2.1⟩
theorem si_rowsOf_s (d n : Nat) (x : Int) (τ : am_M) (h : τ 2 9 ≤ 64) : si_rowsOf (d + 2) x τ n = some (if 0 ≤ x ∧ x < τ 2 9 then τ 30 x.toNat else 0, τ, n) := by
  rw [si_rowsOf_e]
  simp only [me_isGroup_s, Option.bind_some, mx_b_0, decide_eq_false_iff_not]
  by_cases hg : 0 ≤ x ∧ x < τ 2 9
  · rw [if_neg (not_not_intro hg), if_pos hg, ix_30 (by omega) (by omega)]
  · rw [if_pos hg, if_neg hg]
theorem si_rowsBy_s (d n : Nat) (h : mx_CI 2 σ) (e : Nat) (he : (e : Int) < σ 2 3) (hH : σ 9 e ≠ -1) (τ : am_M) (hF : mx_Fr [29, 30] σ τ) (hr : ∀ i : Nat, i < 64 → τ 30 i = mx_rF (σ 3) (σ 4) (σ 5) (σ 6) (σ 7) (σ 8) (σ 9) e i) :
    si_rowsBy (d + 3) e τ n = some (mx_rb (σ 3) (σ 4) (σ 5 e) (σ 6 e) (if σ 7 e < 0 then 0 else mx_rF (σ 3) (σ 4) (σ 5) (σ 6) (σ 7) (σ 8) (σ 9) e (σ 7 e).toNat) (if σ 8 e < 0 then 0 else mx_rF (σ 3) (σ 4) (σ 5) (σ 6) (σ 7) (σ 8) (σ 9) e (σ 8 e).toNat), τ, n) := by
  obtain ⟨c0, c1, c2, c3⟩ := mx_CI_b h
  have hW := mx_CI_W h
  have kk := hW.2.2.2.1 e he
  have k2 := kk.2.1
  obtain ⟨s1, s2, s3⟩ := hW.2.2.1.1 e he hH
  have s1 : 0 ≤ σ 9 e ∧ σ 9 e < σ 2 9 := ⟨s1.1, s1.2.1⟩
  have s2 : σ 7 e = -1 ∨ (0 ≤ σ 7 e ∧ σ 7 e < σ 2 9) := by rcases s2 with q | q; exact Or.inl q; exact Or.inr ⟨q.1, q.2.1⟩
  have s3 : σ 8 e = -1 ∨ (0 ≤ σ 8 e ∧ σ 8 e < σ 2 9) := by rcases s3 with q | q; exact Or.inl q; exact Or.inr ⟨q.1, q.2.1⟩
  have rg := mx_rF_rg (X := σ 7) (Y := σ 8) (H := σ 9) hW.1 hW.2.2.2.1 e (by omega)
  have ga : ∀ (d : Nat) (v : Int), (v = -1 ∨ (0 ≤ v ∧ v < σ 2 9)) → si_rowsOf (d + 2) v τ n = some (if v < 0 then 0 else mx_rF (σ 3) (σ 4) (σ 5) (σ 6) (σ 7) (σ 8) (σ 9) e v.toNat, τ, n) := by
    intro d v hv
    rw [si_rowsOf_s _ _ _ _ (by rw [hF 2 (by decide)]; omega), hF 2 (by decide)]
    rcases hv with hv | hv
    · rw [if_neg (by omega), if_pos (by omega)]
    · rw [if_pos hv, if_neg (by omega), hr _ (by omega)]
  have hr0 : ∀ v : Int, 0 ≤ (if v < 0 then 0 else mx_rF (σ 3) (σ 4) (σ 5) (σ 6) (σ 7) (σ 8) (σ 9) e v.toNat) ∧ (if v < 0 then 0 else mx_rF (σ 3) (σ 4) (σ 5) (σ 6) (σ 7) (σ 8) (σ 9) e v.toNat) ≤ 1000000 := by
    intro v
    split
    · exact ⟨Int.le_refl _, by decide⟩
    · exact rg _
  rw [si_rowsBy_e, ix_6 (by omega) (by omega), ix_5 (by omega) (by omega)]
  simp only [Int.toNat_natCast, hF 5 (by decide), hF 6 (by decide), hF 7 (by decide), hF 8 (by decide), hF 4 (by decide)]
  unfold mx_rb
  by_cases k1 : σ 5 e = 1
  · have ht := kk.2.2.1 k1
    rw [if_pos k1, if_pos k1, me_factOfTable_s _ _ _ _ _ (by rw [hF 2 (by decide)]; omega), hF 2 (by decide), hF 3 (by decide), Option.bind_some, if_pos ⟨⟨by omega, ht⟩, by decide, by decide⟩]
    show some (σ 3 (4 * σ 6 e + 0).toNat, τ, n) = _
    rw [Int.add_zero]
  · rw [if_neg k1, if_neg k1, ix_7 (by omega) (by omega), ga d (σ 7 e) s2, Option.bind_some]
    have ha := hr0 (σ 7 e)
    generalize (if σ 7 e < 0 then 0 else mx_rF (σ 3) (σ 4) (σ 5) (σ 6) (σ 7) (σ 8) (σ 9) e (σ 7 e).toNat) = a at *
    dsimp only
    simp only [hF 4 (by decide), hF 8 (by decide)]
    by_cases k3 : σ 5 e = 3
    · have h10 := mx_tdiv_rg ha.1 (b := 10) (by decide)
      have h2 := mx_tdiv_rg ha.1 (b := 2) (by decide)
      rw [if_pos k3, if_pos k3, mx_x_id (z := Int.tdiv a 10) (by omega) (by omega), mx_x_id (z := Int.tdiv a 2) (by omega) (by omega)]
      split <;> rfl
    · have hp := kk.2.2.2.1 (by rcases kk.1 with z | z | z | z | z <;> omega)
      have hD := hW.1.2.2 (σ 6 e).toNat (by omega)
      have hD : 1 ≤ σ 4 (σ 6 e).toNat ∧ σ 4 (σ 6 e).toNat ≤ 1000000 := hD
      have hmx : am_mx 1 (σ 4 (σ 6 e).toNat) = σ 4 (σ 6 e).toNat := by unfold am_mx; split <;> omega
      rw [if_neg k3, if_neg k3, ix_4 (by omega) (by omega), hmx]
      by_cases k4 : σ 5 e = 4
      · rw [if_pos k4, if_pos k4]
      · rw [if_neg k4, if_neg k4, ix_8 (by omega) (by omega), ga d (σ 8 e) s3, Option.bind_some]
        have hb := hr0 (σ 8 e)
        generalize (if σ 8 e < 0 then 0 else mx_rF (σ 3) (σ 4) (σ 5) (σ 6) (σ 7) (σ 8) (σ 9) e (σ 8 e).toNat) = b at *
        have hm := mx_mul_rg ha hb
        have hd := mx_tdiv_rg hm.1 (b := σ 4 (σ 6 e).toNat) (by omega)
        dsimp only
        rw [mx_if_t (by omega), mx_x_id (z := a * b) (by omega) (by omega), mx_x_id (z := Int.tdiv _ _) (by omega) (by omega)]
        split <;> rfl
theorem si_refresh_36_s (d n : Nat) (h : mx_CI 2 σ) : ∀ (t e : Nat) (τ : am_M), (e : Int) + t = σ 2 3 → mx_Fr [29, 30] σ τ → (∀ i : Nat, i < 64 → τ 30 i = mx_rF (σ 3) (σ 4) (σ 5) (σ 6) (σ 7) (σ 8) (σ 9) e i) →
    ∃ τ' : am_M, si_refresh_36 (d + 3) e τ n = some (0, τ', n) ∧ mx_Fr [30] τ τ' ∧ ∀ i : Nat, i < 64 → τ' 30 i = mx_cR σ i := by
  obtain ⟨c0, c1, c2, c3⟩ := mx_CI_b h
  intro t
  induction t with
  | zero =>
    intro e τ he hF hr
    refine ⟨τ, by rw [si_refresh_36_e, hF 2 (by decide), if_neg (by omega)], mx_fr_rf, fun i hi => ?_⟩
    unfold mx_cR mx_Rw
    rw [show (σ 2 3).toNat = e by omega]
    exact hr i hi
  | succ t ih =>
    intro e τ he hF hr
    rw [si_refresh_36_e, hF 2 (by decide), if_pos (by omega), ix_9 (by omega) (by omega), Int.toNat_natCast, hF 9 (by decide)]
    by_cases hH : σ 9 e = -1
    · rw [if_pos hH, mx_w_nat (by omega)]
      refine ih (e + 1) τ (by omega) hF fun i hi => ?_
      rw [mx_rF_S, if_neg (fun q => by rw [hH] at q; omega)]
      exact hr i hi
    · obtain ⟨s1, -, -⟩ := (mx_CI_W h).2.2.1.1 e (by omega) hH
      have s1 : 0 ≤ σ 9 e ∧ σ 9 e < σ 2 9 := ⟨s1.1, s1.2.1⟩
      rw [if_neg hH, ix_30 (by omega) (by omega), hr _ (by omega)]
      by_cases q : mx_rF (σ 3) (σ 4) (σ 5) (σ 6) (σ 7) (σ 8) (σ 9) e (σ 9 e).toNat = 0
      · rw [if_pos q, si_rowsBy_s d n h e (by omega) hH τ hF hr, Option.bind_some]
        have rg := mx_rF_rg (X := σ 7) (Y := σ 8) (H := σ 9) (mx_CI_W h).1 (mx_CI_W h).2.2.2.1 (e + 1) (by omega) (σ 9 e).toNat
        rw [mx_rF_S, if_pos ⟨by omega, q⟩] at rg
        dsimp only [am_m]
        try simp only [hF 9 (by decide)]
        rw [ix_30 (by omega) (by omega), mx_w_nat (by omega)]
        have rg : 0 ≤ am_mx 1 (mx_rb (σ 3) (σ 4) (σ 5 e) (σ 6 e) (if σ 7 e < 0 then 0 else mx_rF (σ 3) (σ 4) (σ 5) (σ 6) (σ 7) (σ 8) (σ 9) e (σ 7 e).toNat) (if σ 8 e < 0 then 0 else mx_rF (σ 3) (σ 4) (σ 5) (σ 6) (σ 7) (σ 8) (σ 9) e (σ 8 e).toNat)) ∧ _ := rg
        rw [mx_w_id (by omega) (by have := rg.2; exact Int.lt_of_le_of_lt this (by decide))]
        generalize hV : am_mx 1 (mx_rb (σ 3) (σ 4) (σ 5 e) (σ 6 e) (if σ 7 e < 0 then 0 else mx_rF (σ 3) (σ 4) (σ 5) (σ 6) (σ 7) (σ 8) (σ 9) e (σ 7 e).toNat) (if σ 8 e < 0 then 0 else mx_rF (σ 3) (σ 4) (σ 5) (σ 6) (σ 7) (σ 8) (σ 9) e (σ 8 e).toNat)) = V
        obtain ⟨τ', p1, p2, p3⟩ := ih (e + 1) (am_wr τ 30 (σ 9 e).toNat V) (by omega) (mx_fr_wr hF (by decide)) (fun i hi => by
          rw [mx_wr_if, mx_rF_S, hV]
          by_cases z : i = (σ 9 e).toNat
          · subst z
            rw [if_pos rfl, if_pos ⟨by omega, q⟩]
          · rw [if_neg z, if_neg (fun r => z (by omega))]
            exact hr i hi)
        exact ⟨τ', p1, mx_fr_tr mx_fr_w1 p2, p3⟩
      · rw [if_neg q, mx_w_nat (by omega)]
        refine ih (e + 1) τ (by omega) hF fun i hi => ?_
        rw [mx_rF_S, if_neg (fun z => q (by rw [show (σ 9 e).toNat = i by omega]; exact z.2))]
        exact hr i hi
theorem si_refresh_s (d n : Nat) (h : mx_CI 2 σ) (hv : σ 29 4 = σ 2 17 → mx_Rv σ) : ∃ τ : am_M, si_refresh (d + 4) σ n = some (0, τ, n) ∧ mx_Fr [29, 30] σ τ ∧ (∀ j, j ≠ 4 → τ 29 j = σ 29 j) ∧ τ 29 4 = σ 2 17 ∧ ∀ i : Nat, i < 64 → τ 30 i = mx_cR σ i := by
  by_cases q : σ 29 4 = σ 2 17
  · exact ⟨σ, by rw [si_refresh_e, if_pos q], mx_fr_rf, fun _ _ => rfl, q, hv q⟩
  · obtain ⟨σ1, p1, p2, p3, -⟩ := ar_fill_s (d + 2) n 30 64 0 (am_wr σ 29 4 (σ 2 17)) (by decide) rfl (by decide)
    obtain ⟨τ, q1, q2, q3⟩ := si_refresh_36_s d n h (σ 2 3).toNat 0 σ1 (by have := mx_CI_b h; omega) (mx_fr_tr (mx_fr_up (mx_fr_w1 (σ := σ) (a := 29) (k := 4) (v := σ 2 17)) (by decide)) (mx_fr_up p2 (by decide))) (fun i hi => p3 i hi)
    refine ⟨τ, ?_, mx_fr_tr (mx_fr_up (mx_fr_w1 (σ := σ) (a := 29) (k := 4) (v := σ 2 17)) (by decide)) (mx_fr_tr (mx_fr_up p2 (by decide)) (mx_fr_up q2 (by decide))), fun j hj => ?_, ?_, q3⟩
    · have p1 : ar_fill (d + 3) 30 0 (am_wr σ 29 4 (σ 2 17)) n = some (0, σ1, n) := p1
      rw [si_refresh_e, if_neg q]
      dsimp only [am_m]
      rw [p1, Option.bind_some]
      exact q1
    · rw [q2 29 (by decide), p2 29 (by decide), mx_wr_off hj]
    · rw [q2 29 (by decide), p2 29 (by decide), mx_wr_at]
end
