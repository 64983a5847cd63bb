/-! PRICES are reckoned -/
section
variable {n : Nat} {μ : am_M}
theorem mx_cR_b (hg : mx_gd μ) (i : Nat) : 0 ≤ mx_cR μ i ∧ mx_cR μ i ≤ 1000000 := by
  have w2 := hg.1.2.1
  exact mx_rF_rg hg.1.1 hg.1.2.2.2.1 (μ 2 3).toNat (by omega) i
theorem mx_fs_c : ∀ k : Nat, k < 7 → (k = 1 ∨ k = 3 ∨ 4 ≤ k) → am_kc 1005 k = mx_first (k : Int) ∧ am_w (Int.tdiv (am_w (am_kc 1006 k + 1)) 2) = (((mx_slots (k : Int) + 1) / 2 : Nat) : Int) := by decide +kernel
theorem mx_rp_w1 {z : Int} {i : Nat} (h : 0 ≤ z + (i : Nat) ∧ z + (i : Nat) ≤ 11) : am_w (z + (i : Int)) = z + (i : Nat) := mx_w_id (by omega) (by omega)
theorem mx_rp_w2 {e i : Nat} (he : e < 64) (hi : i < 3) : am_w (am_w ((e : Int) * 3) + (i : Int)) = ((3 * e + i : Nat) : Int) := by rw [mx_w_id (z := (e : Int) * 3) (by omega) (by omega), mx_w_id (by omega) (by omega)]; omega
theorem wa_rp_83 (d : Nat) (e : Nat) (he : e < 64) (r a b : Int) (hr : 0 ≤ r ∧ r ≤ 1000000) (ha : 0 ≤ a ∧ a ≤ 1000000) (hb : 0 ≤ b ∧ b ≤ 1000000) (K : Nat) (hK : K < 7) (hK2 : K = 1 ∨ K = 3 ∨ 4 ≤ K) : ∀ (k i : Nat) (σ : am_M), i + k = (mx_slots (K : Int) + 1) / 2 →
    ∃ σ' : am_M, wa_reckonPricesOf_83 (d + 4) e r a b K i σ n = some (0, σ', n) ∧ mx_Fr [38, 39, 40, 41] σ σ' ∧ (∀ j : Nat, i ≤ j → j < (mx_slots (K : Int) + 1) / 2 → σ' 41 (3 * e + j) = mx_pr (mx_first (K : Int) + (j : Nat)) a b r) ∧ ∀ j : Nat, (j < 3 * e + i ∨ 3 * e + (mx_slots (K : Int) + 1) / 2 ≤ j) → σ' 41 j = σ 41 j := by
  have fc := mx_fs_c K hK hK2
  have hN : (mx_slots (K : Int) + 1) / 2 ≤ 3 := by
    have : K = 0 ∨ K = 1 ∨ K = 2 ∨ K = 3 ∨ K = 4 ∨ K = 5 ∨ K = 6 := by omega
    rcases this with q | q | q | q | q | q | q <;> subst q <;> decide
  have hf : 1 ≤ mx_first (K : Int) ∧ mx_first (K : Int) ≤ 8 ∧ mx_first (K : Int) + 2 ≤ 11 := by
    have : K = 0 ∨ K = 1 ∨ K = 2 ∨ K = 3 ∨ K = 4 ∨ K = 5 ∨ K = 6 := by omega
    rcases this with q | q | q | q | q | q | q <;> subst q <;> decide
  have KB : (0 : Int) ≤ (K : Int) ∧ (K : Int) < 7 := ⟨by omega, by omega⟩
  intro k
  induction k with
  | zero =>
    intro i σ hi
    refine ⟨σ, ?_, mx_fr_rf, fun j h1 h2 => by omega, fun _ _ => rfl⟩
    rw [wa_reckonPricesOf_83_e, mx_cx_t 7 rfl KB.1 KB.2, Int.toNat_natCast, fc.2, if_neg (by omega)]
  | succ k ih =>
    intro i σ hi
    have i3 : i < 3 := by omega
    have IX : (0 : Int) ≤ ((3 * e + i : Nat) : Int) ∧ ((3 * e + i : Nat) : Int) < 192 := ⟨by omega, by omega⟩
    have kk : 0 ≤ mx_first (K : Int) + (i : Nat) ∧ mx_first (K : Int) + (i : Nat) ≤ 11 := by omega
    have pos : (i : Int) < (((mx_slots (K : Int) + 1) / 2 : Nat) : Int) := by omega
    have w3 : am_w ((i : Int) + 1) = ((i + 1 : Nat) : Int) := mx_w_nat (by clear fc; omega)
    have w1 : am_w (mx_first (K : Int) + (i : Int)) = mx_first (K : Int) + (i : Nat) := mx_rp_w1 kk
    have w2 : am_w (am_w ((e : Int) * 3) + (i : Int)) = ((3 * e + i : Nat) : Int) := mx_rp_w2 he i3
    obtain ⟨σ1, p1, p2, -⟩ := bo_priceB_s d (mx_first (K : Int) + (i : Nat)) a b r σ n kk ha hb hr
    rw [wa_reckonPricesOf_83_e, mx_cx_t 7 rfl KB.1 KB.2, Int.toNat_natCast, fc.2, if_pos pos, mx_cx_t 7 rfl KB.1 KB.2, fc.1, w1, p1, Option.bind_some, w2, w3, ix_41 IX.1 IX.2, mx_m, Int.toNat_natCast]
    clear w1 w2 w3 fc
    obtain ⟨σ', q1, q2, q3, q4⟩ := ih (i + 1) (am_wr σ1 41 (3 * e + i) (mx_pr (mx_first (K : Int) + (i : Nat)) a b r)) (by omega)
    refine ⟨σ', q1, mx_fr_tr (mx_fr_up p2 (by decide)) (mx_fr_tr (mx_fr_wr mx_fr_rf (by decide)) q2), fun j h1 h2 => ?_, fun j h1 => ?_⟩
    · by_cases z : j = i
      · subst z
        rw [q4 _ (by omega), mx_wr_at]
      · exact q3 j (by omega) h2
    · rw [q4 j (by omega), mx_wr_off (by omega), p2 41 (by decide)]
theorem wa_rpOf_s (hg : mx_gd μ) (d : Nat) (e : Nat) (he : (e : Int) < μ 2 3) (hH : μ 9 e ≠ -1) {σ : am_M} (hc : ∀ i, i ≤ 14 → σ i = μ i) (h30 : ∀ i : Nat, i < 64 → σ 30 i = mx_cR μ i) :
    ∃ σ' : am_M, wa_reckonPricesOf (d + 5) e σ n = some (0, σ', n) ∧ mx_Fr [38, 39, 40, 41] σ σ' ∧ (∀ i : Nat, 2 * i < mx_slots (μ 5 e) → σ' 41 (3 * e + i) = mx_pe μ e i) ∧ ∀ j : Nat, (j < 3 * e ∨ 3 * e + 3 ≤ j) → σ' 41 j = σ 41 j := by
  have h64 := hg.2.1
  have wg := hg.1.2.1
  have E : (0 : Int) ≤ e ∧ (e : Int) < 64 := ⟨by omega, by omega⟩
  have s := hg.1.2.2.1.1 e he hH
  have kd := mx_kd_n (hg.1.2.2.2.1 e he).1
  have kk := (hg.1.2.2.2.1 e he).2.2.2.2.2 hH
  obtain ⟨K, hK⟩ : ∃ K : Nat, μ 5 e = K := ⟨(μ 5 e).toNat, by rcases kd with q | q | q | q | q <;> omega⟩
  have hK7 : K < 7 ∧ (K = 1 ∨ K = 3 ∨ 4 ≤ K) := by rcases kd with q | q | q | q | q <;> omega
  have sl : mx_slots (K : Int) + 1 ≤ 7 ∧ 1 ≤ mx_slots (K : Int) := by
    have : K = 1 ∨ K = 3 ∨ K = 4 ∨ K = 5 ∨ K = 6 := by omega
    rcases this with q | q | q | q | q <;> subst q <;> decide
  have rows : ∀ x : Int, x = -1 ∨ (0 ≤ x ∧ x < μ 2 9) → si_rowsOf (d + 4) x σ n = some (if x < 0 then 0 else mx_cR μ x.toNat, σ, n) := fun x hx => by
    rw [si_rowsOf_s (d + 2) n x σ (by rw [hc 2 (by decide)]; omega), hc 2 (by decide)]
    rcases hx with q | q
    · rw [if_neg (by omega), if_pos (by omega)]
    · rw [if_pos q, if_neg (by omega), h30 _ (by omega)]
  have hx : μ 7 e = -1 ∨ (0 ≤ μ 7 e ∧ μ 7 e < μ 2 9) := by rcases s.2.1 with q | q; exact Or.inl q; exact Or.inr ⟨q.1, q.2.1⟩
  have hy : μ 8 e = -1 ∨ (0 ≤ μ 8 e ∧ μ 8 e < μ 2 9) := by rcases s.2.2 with q | q; exact Or.inl q; exact Or.inr ⟨q.1, q.2.1⟩
  have l50 : ∀ a : Int, 0 ≤ a ∧ a ≤ 1000000 → a = (if μ 5 e = 1 then mx_cR μ (μ 9 e).toNat else mx_cR μ (μ 7 e).toNat) → ∃ σ' : am_M, wa_reckonPricesOf_50 (d + 4) e (mx_cR μ (μ 9 e).toNat) a σ n = some (0, σ', n) ∧ mx_Fr [38, 39, 40, 41] σ σ' ∧ (∀ i : Nat, 2 * i < mx_slots (μ 5 e) → σ' 41 (3 * e + i) = mx_pe μ e i) ∧ ∀ j : Nat, (j < 3 * e ∨ 3 * e + 3 ≤ j) → σ' 41 j = σ 41 j := by
    intro a ha hae
    have hbb : 0 ≤ (if μ 8 e < 0 then 0 else mx_cR μ (μ 8 e).toNat) ∧ (if μ 8 e < 0 then 0 else mx_cR μ (μ 8 e).toNat) ≤ 1000000 := by
      split
      · exact ⟨by decide, by decide⟩
      · exact mx_cR_b hg _
    obtain ⟨σ', p1, p2, p3, p4⟩ := wa_rp_83 (n := n) d e (by omega) (mx_cR μ (μ 9 e).toNat) a (if μ 8 e < 0 then 0 else mx_cR μ (μ 8 e).toNat) (mx_cR_b hg _) ha hbb K hK7.1 hK7.2 ((mx_slots (K : Int) + 1) / 2) 0 σ (by omega)
    refine ⟨σ', ?_, p2, fun i hi => ?_, fun j hj => p4 j (by omega)⟩
    · rw [wa_reckonPricesOf_50_e, ix_8 E.1 E.2, Int.toNat_natCast, hc 8 (by decide), rows _ hy, Option.bind_some, ix_5 E.1 E.2]
      dsimp only
      rw [hc 5 (by decide), hK]
      exact p1
    · rw [hK] at hi
      rw [p3 i (by omega) (by omega)]
      unfold mx_pe
      rw [hae, hK]
  have h9 : μ 9 e = -1 ∨ (0 ≤ μ 9 e ∧ μ 9 e < μ 2 9) := Or.inr ⟨s.1.1, s.1.2.1⟩
  have n9 : ¬ (μ 9 e < 0) := by omega
  rw [wa_reckonPricesOf_e, ix_9 E.1 E.2, Int.toNat_natCast, hc 9 (by decide), rows _ h9, Option.bind_some, ix_5 E.1 E.2]
  simp only [hc 5 (by decide), if_neg n9]
  by_cases k1 : μ 5 e = 1
  · rw [if_pos k1]
    exact l50 _ (mx_cR_b hg _) (by rw [if_pos k1])
  · have x1 : μ 7 e ≠ -1 := fun q => k1 (kk.1.mpr q)
    have nx : ¬ (μ 7 e < 0) := by rcases hx with q | q; exact absurd q x1; omega
    rw [if_neg k1, ix_7 E.1 E.2, hc 7 (by decide), rows _ hx, Option.bind_some, if_neg nx]
    exact l50 _ (mx_cR_b hg _) (by rw [if_neg k1])
theorem wa_rp_44 (hg : mx_gd μ) (d : Nat) : ∀ (k g : Nat) (σ : am_M), (g : Int) + k = μ 2 9 → (∀ i, i ≤ 14 → σ i = μ i) → (∀ i : Nat, i < 64 → σ 30 i = mx_cR μ i) →
    ∃ σ' : am_M, wa_reckonPrices_44 (d + 5) g σ n = some (0, σ', n) ∧ mx_Fr [38, 39, 40, 42] σ σ' ∧ (∀ j : Nat, g ≤ j → (j : Int) < μ 2 9 → μ 10 j = j → σ' 42 (2 * j) = mx_pg μ j 0 ∧ σ' 42 (2 * j + 1) = mx_pg μ j 1) ∧ ∀ j : Nat, j < 2 * g → σ' 42 j = σ 42 j := by
  have h64 := hg.2.1
  have wg := hg.1.2.1
  intro k
  induction k with
  | zero =>
    intro g σ hk hc h30
    refine ⟨σ, ?_, mx_fr_rf, fun j h1 h2 => by omega, fun _ _ => rfl⟩
    rw [wa_reckonPrices_44_e, hc 2 (by decide), if_neg (by omega)]
  | succ k ih =>
    intro g σ hk hc h30
    have G : (0 : Int) ≤ (g : Int) ∧ (g : Int) < μ 2 9 := ⟨by omega, by omega⟩
    have s := hg.1.2.2.1.2 g G.2
    have S : 0 ≤ μ 10 g ∧ μ 10 g < μ 2 9 := ⟨s.1, by omega⟩
    have I0 : (0 : Int) ≤ ((2 * g : Nat) : Int) ∧ ((2 * g : Nat) : Int) < 128 := ⟨by omega, by omega⟩
    have I1 : (0 : Int) ≤ ((2 * g + 1 : Nat) : Int) ∧ ((2 * g + 1 : Nat) : Int) < 128 := ⟨by omega, by omega⟩
    have hb : (0 : Int) ≤ 0 ∧ (0 : Int) ≤ 1000000 := by decide
    have rb := mx_cR_b hg (μ 10 g).toNat
    obtain ⟨σ1, p1, p2, -⟩ := bo_priceB_s (d + 1) 10 (mx_cR μ (μ 10 g).toNat) 0 (mx_cR μ (μ 10 g).toNat) σ n (by decide) rb hb rb
    obtain ⟨σ2, q1, q2, -⟩ := bo_priceB_s (d + 1) 11 (mx_cR μ (μ 10 g).toNat) 0 (mx_cR μ (μ 10 g).toNat) (am_wr σ1 42 (2 * g) (mx_pr 10 (mx_cR μ (μ 10 g).toNat) 0 (mx_cR μ (μ 10 g).toNat))) n (by decide) rb hb rb
    have root : me_root (d + 5) g σ n = some (μ 10 g, σ, n) := by
      rw [me_root_s _ _ _ _ (by rw [hc 2 (by decide)]; omega), hc 2 (by decide), hc 10 (by decide), if_pos G, Int.toNat_natCast]
    have rows : si_rowsOf (d + 5) (μ 10 g) σ n = some (mx_cR μ (μ 10 g).toNat, σ, n) := by
      rw [si_rowsOf_s (d + 3) n _ σ (by rw [hc 2 (by decide)]; omega), hc 2 (by decide), if_pos S, h30 _ (by omega)]
    have w0 : am_w ((g : Int) * 2) = ((2 * g : Nat) : Int) := by rw [mx_w_id (by omega) (by omega)]; omega
    have w1 : am_w (((2 * g : Nat) : Int) + 1) = ((2 * g + 1 : Nat) : Int) := mx_w_nat (by omega)
    have w2 : am_w ((g : Int) + 1) = ((g + 1 : Nat) : Int) := mx_w_nat (by omega)
    rw [wa_reckonPrices_44_e, hc 2 (by decide), if_pos G.2, root, Option.bind_some]
    dsimp only
    rw [rows, Option.bind_some]
    dsimp only
    rw [p1, Option.bind_some, w0, ix_42 I0.1 I0.2, mx_m, Int.toNat_natCast]
    dsimp only
    rw [q1, Option.bind_some, w1, ix_42 I1.1 I1.2, mx_m, Int.toNat_natCast, w2]
    clear w0 w1 w2
    have c3 : ∀ i, i ≤ 30 → (am_wr σ2 42 (2 * g + 1) (mx_pr 11 (mx_cR μ (μ 10 g).toNat) 0 (mx_cR μ (μ 10 g).toNat))) i = σ i := fun i hi => by
      rw [mx_wr_ne (by omega), q2 i (by simp only [List.mem_cons, List.not_mem_nil, or_false, not_or]; omega), mx_wr_ne (by omega), p2 i (by simp only [List.mem_cons, List.not_mem_nil, or_false, not_or]; omega)]
    obtain ⟨σ', r1, r2, r3, r4⟩ := ih (g + 1) (am_wr σ2 42 (2 * g + 1) (mx_pr 11 (mx_cR μ (μ 10 g).toNat) 0 (mx_cR μ (μ 10 g).toNat))) (by omega) (fun i hi => by rw [c3 i (by omega)]; exact hc i hi) (fun i hi => by rw [c3 30 (by decide)]; exact h30 i hi)
    refine ⟨σ', r1, mx_fr_tr (mx_fr_up p2 (by decide)) (mx_fr_tr (mx_fr_wr mx_fr_rf (by decide)) (mx_fr_tr (mx_fr_up q2 (by decide)) (mx_fr_tr (mx_fr_wr mx_fr_rf (by decide)) r2))), fun j h1 h2 h3 => ?_, fun j hj => ?_⟩
    · by_cases z : j = g
      · subst z
        rw [r4 _ (by omega), r4 _ (by omega), mx_wr_off (by omega), mx_wr_at, q2 42 (by decide), mx_wr_at]
        unfold mx_pg
        rw [h3, Int.toNat_natCast]
        exact ⟨rfl, rfl⟩
      · exact r3 j (by omega) h2 h3
    · rw [r4 j (by omega), mx_wr_off (by omega), q2 42 (by decide), mx_wr_off (by omega), p2 42 (by decide)]
theorem wa_rp_9 (hg : mx_gd μ) (d : Nat) : ∀ (k e : Nat) (σ : am_M), (e : Int) + k = μ 2 3 → (∀ i, i ≤ 14 → σ i = μ i) → (∀ i : Nat, i < 64 → σ 30 i = mx_cR μ i) →
    ∃ σ' : am_M, wa_reckonPrices_9 (d + 5) e σ n = wa_reckonPrices_44 (d + 5) 0 σ' n ∧ mx_Fr [38, 39, 40, 41] σ σ' ∧ (∀ j : Nat, e ≤ j → (j : Int) < μ 2 3 → μ 9 j ≠ -1 → ∀ i : Nat, 2 * i < mx_slots (μ 5 j) → σ' 41 (3 * j + i) = mx_pe μ j i) ∧ ∀ j : Nat, j < 3 * e → σ' 41 j = σ 41 j := by
  have h64 := hg.2.1
  have wg := hg.1.2.1
  intro k
  induction k with
  | zero =>
    intro e σ hk hc h30
    refine ⟨σ, ?_, mx_fr_rf, fun j h1 h2 => by omega, fun _ _ => rfl⟩
    rw [wa_reckonPrices_9_e, hc 2 (by decide), if_neg (by omega)]
  | succ k ih =>
    intro e σ hk hc h30
    have he : (e : Int) < μ 2 3 := by omega
    have w2 : am_w ((e : Int) + 1) = ((e + 1 : Nat) : Int) := mx_w_nat (by omega)
    rw [wa_reckonPrices_9_e, hc 2 (by decide), if_pos he, me_isGone_s _ _ _ _ ⟨by omega, by omega⟩, Option.bind_some, Int.toNat_natCast, hc 9 (by decide), w2]
    clear w2
    by_cases hH : μ 9 e = -1
    · rw [mx_bi_p hH]
      obtain ⟨σ', p1, p2, p3, p4⟩ := ih (e + 1) σ (by omega) hc h30
      refine ⟨σ', p1, p2, fun j h1 h2 h3 => ?_, fun j hj => p4 j (by omega)⟩
      by_cases z : j = e
      · rw [z] at h3; exact absurd hH h3
      · exact p3 j (by omega) h2 h3
    · rw [mx_bi_n hH]
      obtain ⟨σ1, a1, a2, a3, a4⟩ := wa_rpOf_s (n := n) hg d e he hH hc h30
      dsimp only
      rw [a1, Option.bind_some]
      have c1 : ∀ i, i ≤ 30 → σ1 i = σ i := fun i hi => a2 i (by simp only [List.mem_cons, List.not_mem_nil, or_false, not_or]; omega)
      obtain ⟨σ', p1, p2, p3, p4⟩ := ih (e + 1) σ1 (by omega) (fun i hi => by rw [c1 i (by omega)]; exact hc i hi) (fun i hi => by rw [c1 30 (by decide)]; exact h30 i hi)
      refine ⟨σ', p1, mx_fr_tr a2 p2, fun j h1 h2 h3 i hi => ?_, fun j hj => by rw [p4 j (by omega), a4 j (by omega)]⟩
      by_cases z : j = e
      · subst z
        have i3 : i < 3 := by
          have kd := mx_kd_n (hg.1.2.2.2.1 j h2).1
          have : mx_slots (μ 5 j) ≤ 6 := by rcases kd with q | q | q | q | q <;> rw [q] <;> decide
          omega
        rw [p4 _ (by omega)]
        exact a3 i hi
      · exact p3 j (by omega) h2 h3 i hi
/-- reckonPrices() -/
theorem wa_reckonPrices_s (hCI : mx_CI 2 μ) (hg : mx_gd μ) (hv : μ 29 4 = μ 2 17 → mx_Rv μ) (d : Nat) : ∃ σ' : am_M, wa_reckonPrices (d + 6) μ n = some (0, σ', n) ∧ mx_Fq [30, 38, 39, 40, 41, 42] [(29, 4)] μ σ' ∧ σ' 29 4 = μ 2 17 ∧ (∀ i : Nat, i < 64 → σ' 30 i = mx_cR μ i) ∧ mx_Pv σ' := by
  have h64 := hg.2.1
  have wg := hg.1.2.1
  obtain ⟨σ1, a1, a2, a3, a4, a5⟩ := si_refresh_s (d + 1) n hCI hv
  have F1 : mx_Fq [30] [(29, 4)] μ σ1 := mx_fq_up (mx_fq_cell (c := 29) (C := [30]) (J := [4]) a2 (fun j hj => a3 j (by rintro rfl; exact absurd hj (by decide)))) rfl
  have c1 : ∀ i, i ≤ 14 → σ1 i = μ i := fun i hi => a2 i (by simp only [List.mem_cons, List.not_mem_nil, or_false, not_or]; omega)
  obtain ⟨σ2, b1, b2, b3, -⟩ := wa_rp_9 (n := n) hg d (μ 2 3).toNat 0 σ1 (by omega) c1 a5
  have c2 : ∀ i, i ≤ 30 → σ2 i = σ1 i := fun i hi => b2 i (by simp only [List.mem_cons, List.not_mem_nil, or_false, not_or]; omega)
  obtain ⟨σ3, d1, d2, d3, -⟩ := wa_rp_44 (n := n) hg d (μ 2 9).toNat 0 σ2 (by omega) (fun i hi => by rw [c2 i (by omega)]; exact c1 i hi) (fun i hi => by rw [c2 30 (by decide)]; exact a5 i hi)
  have c3 : ∀ i, i ≤ 30 → σ3 i = σ2 i := fun i hi => d2 i (by simp only [List.mem_cons, List.not_mem_nil, or_false, not_or]; omega)
  have F3 : mx_Fq [30, 38, 39, 40, 41, 42] [(29, 4)] μ σ3 := mx_fq_tr (mx_fq_up F1 rfl) (mx_fq_tr (mx_fq_up (mx_fq_of b2) rfl) (mx_fq_up (mx_fq_of d2) rfl))
  have k : ∀ i, i ≤ 14 → σ3 i = μ i := fun i hi => by rw [c3 i (by omega), c2 i (by omega)]; exact c1 i hi
  have eR : mx_cR σ3 = mx_cR μ := mx_cR_fr F3 rfl
  have p1 : ∀ e i, mx_pe σ3 e i = mx_pe μ e i := fun x i => by unfold mx_pe; rw [eR, k 5 (by decide), k 7 (by decide), k 8 (by decide), k 9 (by decide)]
  have p2 : ∀ g i, mx_pg σ3 g i = mx_pg μ g i := fun x i => by unfold mx_pg; rw [eR]
  refine ⟨σ3, ?_, F3, by rw [c3 29 (by decide), c2 29 (by decide)]; exact a4, fun i hi => by rw [c3 30 (by decide), c2 30 (by decide)]; exact a5 i hi, fun e he hH i hi => ?_, fun g hg' hT => ?_⟩
  · rw [wa_reckonPrices_e, a1, Option.bind_some]
    exact b1.trans d1
  · rw [k 2 (by decide)] at he
    rw [k 9 (by decide)] at hH
    rw [k 5 (by decide)] at hi
    rw [d2 41 (by decide), p1]
    exact b3 e (Nat.zero_le _) he hH i hi
  · rw [k 2 (by decide)] at hg'
    rw [k 10 (by decide)] at hT
    rw [p2, p2]
    exact d3 g (Nat.zero_le _) hg' hT
end
