section
variable {n : Nat} {μ : am_M}
theorem mx_slen (w : Option mx_wt) : (match w with | some w => [w] | none => []).length ≤ 1 := by
  cases w with
  | none => exact Nat.zero_le _
  | some w => exact Nat.le_refl _
theorem mo_wb_loop (hg : mx_gd μ) (d e : Nat) (he : (e : Int) < μ 2 3) (hH : μ 9 e ≠ -1) (h4 : 4 ≤ μ 5 e) (o p : Int) (ho : -1 ≤ o ∧ o ≤ 3) (x : Nat) (hx : μ 7 e = x ∧ (x : Int) < μ 2 9 ∧ μ 10 x = x)
    (hy : (μ 8 e = -1 ∧ μ 5 e = 4) ∨ ((0 ≤ μ 8 e ∧ μ 8 e < μ 2 9 ∧ μ 10 (μ 8 e).toNat = μ 8 e) ∧ (μ 5 e = 5 ∨ μ 5 e = 6))) (last al : Int) (hl : last = if μ 5 e = 4 then 9 else 6) :
    ∀ (t s : Nat) (σ : am_M) (W : List mx_wt), s + (t + 1) = mx_slots (μ 5 e) → mx_rW μ σ → mx_LW σ W → W.length + (t + 1) ≤ 390 → σ 82 4 = al →
    ∃ σ' : am_M, mo_waysBy_195 (d + 10) e o p (mx_cR μ (μ 9 e).toNat) (μ 6 e) x (μ 8 e) last (mx_first (μ 5 e) + (s / 2 : Nat)) (s % 2 : Nat) σ n = some (0, σ', n) ∧ mx_Fq mx_Cw [(82, 35)] σ σ' ∧ mx_LW σ' (W ++ mx_we μ al o p e s) := by
  have ev : (mx_slots (μ 5 e) = 4 ∧ mx_first (μ 5 e) = 8 ∧ last = 9) ∨ (mx_slots (μ 5 e) = 6 ∧ mx_first (μ 5 e) = 4 ∧ last = 6) := by
    rcases hy with ⟨-, q⟩ | ⟨-, q | q⟩
    · left; rw [hl, q]; decide
    · right; rw [hl, q]; decide
    · right; rw [hl, q]; decide
  intro t
  induction t with
  | zero =>
    intro s σ W hs h hW hL hal
    have s1 : s % 2 = 1 ∧ (s : Int) < 6 := by rcases ev with q | q <;> omega
    have lk : last < mx_first (μ 5 e) + (s / 2 : Nat) + 1 := by rcases ev with ⟨q1, q2, q3⟩ | ⟨q1, q2, q3⟩ <;> omega
    have kb : -1000 ≤ mx_first (μ 5 e) + (s / 2 : Nat) + 1 ∧ mx_first (μ 5 e) + (s / 2 : Nat) + 1 < 1000 := by rcases ev with ⟨q1, q2, q3⟩ | ⟨q1, q2, q3⟩ <;> omega
    obtain ⟨σ', p1, p2, p3⟩ := mo_wb_slot (n := n) hg d e he hH h4 o p ho s (by omega) x hx hy last σ W h hW (by omega)
    refine ⟨σ', ?_, p2, ?_⟩
    · rw [p1, mo_waysBy_195_e, if_neg (by omega), mo_waysBy_185_e, mx_w_id (by omega) (by omega), if_pos lk]
    · rw [mx_we_S (by omega), mx_we_0 (by omega), List.append_nil, ← hal]
      exact p3
  | succ t ih =>
    intro s σ W hs h hW hL hal
    have kb : -1000 ≤ mx_first (μ 5 e) + (s / 2 : Nat) + 1 ∧ mx_first (μ 5 e) + (s / 2 : Nat) + 1 < 1000 := by rcases ev with ⟨q1, q2, q3⟩ | ⟨q1, q2, q3⟩ <;> omega
    have lk : s % 2 = 1 → ¬ (last < mx_first (μ 5 e) + (s / 2 : Nat) + 1) := fun _ => by rcases ev with ⟨q1, q2, q3⟩ | ⟨q1, q2, q3⟩ <;> omega
    obtain ⟨σ1, p1, p2, p3⟩ := mo_wb_slot (n := n) hg d e he hH h4 o p ho s (by omega) x hx hy last σ W h hW (by omega)
    have ln := mx_slen (mx_sl μ (σ 82 4) o p e s)
    obtain ⟨σ', q1, q2, q3⟩ := ih (s + 1) σ1 (W ++ match mx_sl μ (σ 82 4) o p e s with | some w => [w] | none => []) (by omega) (mx_rW_fr h p2) p3 (by rw [List.length_append]; omega) (by rw [mx_al_fr p2]; exact hal)
    refine ⟨σ', ?_, mx_fq_tr p2 q2, ?_⟩
    · rw [p1]
      by_cases z : s % 2 = 0
      · have a1 : s / 2 = (s + 1) / 2 := by omega
        have a2 : s % 2 + 1 = (s + 1) % 2 := by omega
        rw [a1, a2]; exact q1
      · have a1 : ((s + 1) / 2 : Nat) = s / 2 + 1 := by omega
        have a2 : (s + 1) % 2 = 0 := by omega
        have lk2 := lk (by omega)
        rw [a1, a2] at q1
        clear lk ev
        rw [mo_waysBy_195_e, if_neg (by omega), mo_waysBy_185_e, mx_w_id (by omega) (by omega), if_neg lk2]
        rw [show mx_first (μ 5 e) + ((s / 2 + 1 : Nat) : Int) = mx_first (μ 5 e) + (s / 2 : Nat) + 1 by omega] at q1
        exact q1
    · rw [mx_we_S (by omega), ← hal, ← List.append_assoc, hal]
      rw [hal] at q3
      exact q3
theorem mo_waysBy_s (hg : mx_gd μ) (d e : Nat) (he : (e : Int) < μ 2 3) (hH : μ 9 e ≠ -1) (o p : Int) (ho : -1 ≤ o ∧ o ≤ 3) (hp : -1 ≤ p ∧ p ≤ 4) (σ : am_M) (W : List mx_wt) (h : mx_rW μ σ) (hW : mx_LW σ W) (hL : W.length + 6 ≤ 390) :
    ∃ σ' : am_M, mo_waysBy (d + 11) e o p σ n = some (0, σ', n) ∧ mx_Fq mx_Cw [(82, 35)] σ σ' ∧ mx_LW σ' (W ++ mx_we μ (σ 82 4) o p e 0) := by
  have h64 := hg.2.1
  have wg := hg.1.2.1
  have s := hg.1.2.2.1.1 e he hH
  have ke := hg.1.2.2.2.1 e he
  have kd := mx_kd_n ke.1
  have kk := ke.2.2.2.2.2 hH
  obtain ⟨hRe, hRi, r1, r2, r3, r4, r5⟩ := h.1.1
  obtain ⟨a1, a2, a3, a4⟩ := hRe e he
  obtain ⟨⟨b1, b2, b3⟩, b4, b5, b6, b7⟩ := a4 hH
  have I : (0 : Int) ≤ (e : Int) ∧ (e : Int) < 144 := ⟨by omega, by omega⟩
  have Ig : (0 : Int) ≤ μ 9 e ∧ μ 9 e < 144 := ⟨s.1.1, by omega⟩
  have rg := (h.2 (μ 9 e).toNat (by omega) (by have := s.1.2.2; omega)).1
  have root : ∀ v : Int, 0 ≤ v → v < μ 2 9 → mo_root (d + 10) v σ n = some (μ 10 v.toNat, σ, n) := fun v q1 q2 => mo_root_s (d + 9) σ n hRi (by omega) v q1 q2
  rw [mo_waysBy_e, ix_93 I.1 I.2, Int.toNat_natCast, root _ b1 b2, Option.bind_some, b3]
  dsimp only
  rw [ix_104 Ig.1 Ig.2, ix_90 I.1 I.2, ix_89 I.1 I.2]
  simp only [Int.toNat_natCast, a1, a2, rg]
  have rb := mx_cR_b hg (μ 9 e).toNat
  have z0 : (0 : Int) ≤ 0 ∧ (0 : Int) ≤ 1000000 := by decide
  by_cases k1 : μ 5 e = 1
  · have pb : 0 ≤ μ 6 e ∧ μ 6 e < 8 := ke.2.1
    have ptn := ke.2.2.1 k1
    have rt := h.1.2.2.1 (μ 6 e).toNat (by omega)
    have y8 : μ 8 e = -1 := kk.2.mp (by omega)
    have t2 : (4 * μ 6 e + 2).toNat = 4 * (μ 6 e).toNat + 2 := by omega
    have t3 : (4 * μ 6 e + 3).toNat = 4 * (μ 6 e).toNat + 3 := by omega
    have sl : mx_we μ (σ 82 4) o p e 0 = if (mx_alw (σ 82 4) 1 && mx_mt (μ 3 (4 * (μ 6 e).toNat + 2)) o && mx_mt (μ 3 (4 * (μ 6 e).toNat + 3)) p) = true then [(1, (e : Int), -1, -1, -1, mx_pr 1 (mx_cR μ (μ 9 e).toNat) 0 (mx_cR μ (μ 9 e).toNat))] else [] := by
      have s1 : mx_slots (μ 5 e) = 1 := by rw [k1]; rfl
      rw [mx_we_S (by omega), mx_we_0 (by omega), List.append_nil]
      unfold mx_sl mx_pe
      rw [if_pos k1, t2, t3]
      simp only [if_pos k1, y8]
      rw [k1]
      cases (mx_alw (σ 82 4) 1 && mx_mt (μ 3 (4 * (μ 6 e).toNat + 2)) o && mx_mt (μ 3 (4 * (μ 6 e).toNat + 3)) p) <;> rfl
    rw [if_pos k1, ix_87 pb.1 pb.2, mo_meets_s, Option.bind_some, ix_88 pb.1 pb.2]
    dsimp only
    rw [rt.2.2.1, show decide (o = -1 ∨ o = μ 3 (4 * (μ 6 e).toNat + 2)) = mx_mt (μ 3 (4 * (μ 6 e).toNat + 2)) o from rfl]
    have nil : ∀ {b c : Bool}, mx_we μ (σ 82 4) o p e 0 = (if (mx_alw (σ 82 4) 1 && b && c) = true then [((1 : Int), (e : Int), (-1 : Int), (-1 : Int), (-1 : Int), mx_pr 1 (mx_cR μ (μ 9 e).toNat) 0 (mx_cR μ (μ 9 e).toNat))] else []) → (b = false ∨ c = false) → mx_LW σ (W ++ mx_we μ (σ 82 4) o p e 0) := by
      intro b c q1 q2
      rw [q1]
      rcases q2 with q | q
      · rw [q, Bool.and_false, Bool.false_and, if_neg (by decide), List.append_nil]; exact hW
      · rw [q, Bool.and_false, if_neg (by decide), List.append_nil]; exact hW
    cases m1 : mx_mt (μ 3 (4 * (μ 6 e).toNat + 2)) o with
    | false => exact ⟨σ, rfl, mx_fq_rf, nil sl (Or.inl m1)⟩
    | true =>
      rw [mx_bT, mo_meets_s, Option.bind_some, rt.2.2.2]
      dsimp only
      rw [show decide (p = -1 ∨ p = μ 3 (4 * (μ 6 e).toNat + 3)) = mx_mt (μ 3 (4 * (μ 6 e).toNat + 3)) p from rfl]
      cases m2 : mx_mt (μ 3 (4 * (μ 6 e).toNat + 3)) p with
      | false => exact ⟨σ, rfl, mx_fq_rf, nil sl (Or.inr m2)⟩
      | true =>
        obtain ⟨σ', p1, p2, p3⟩ := mo_way_s (n := n) d 1 e (-1) (-1) (-1) (mx_cR μ (μ 9 e).toNat) 0 (mx_cR μ (μ 9 e).toNat) σ W (by decide) rb z0 rb hW (by omega)
        refine ⟨σ', by rw [mx_bT, p1, Option.bind_some], p2, ?_⟩
        rw [sl, m1, m2, Bool.and_true, Bool.and_true]
        exact p3
  · have x1 : μ 7 e ≠ -1 := fun q => k1 (kk.1.mpr q)
    have xx : 0 ≤ μ 7 e ∧ μ 7 e < μ 2 9 ∧ μ 10 (μ 7 e).toNat = μ 7 e := by rcases s.2.1 with q | q; exact absurd q x1; exact q
    obtain ⟨x, hx⟩ : ∃ x : Nat, μ 7 e = x := ⟨(μ 7 e).toNat, by omega⟩
    rw [hx, Int.toNat_natCast] at xx
    have c4 := b4 k1
    rw [hx] at c4
    have Ix : (0 : Int) ≤ (x : Int) ∧ (x : Int) < 144 := ⟨by omega, by omega⟩
    have rx := mx_cR_b hg x
    have X1 := (h.2 x xx.2.1 xx.2.2).1
    rw [if_neg k1, ix_91 I.1 I.2, root _ c4.1 c4.2.1, Option.bind_some, c4.2.2, ix_89 I.1 I.2]
    simp only [a1]
    by_cases k3 : μ 5 e = 3
    · have y8 : μ 8 e = -1 := kk.2.mp (by omega)
      obtain ⟨σ', p1, p2, p3⟩ := mo_way_s (n := n) d 2 e ((x : Int) * 30 + (o + 1) * 6 + p + 1) (-1) (-1) (mx_cR μ x) 0 (mx_cR μ (μ 9 e).toNat) σ W (by decide) rx z0 rb hW (by omega)
      refine ⟨σ', ?_, p2, ?_⟩
      · rw [if_pos k3, mo_demand_s _ _ _ _ _ _ ⟨Ix.1, by omega⟩ ho hp, Option.bind_some, ix_104 Ix.1 Ix.2]
        dsimp only
        rw [Int.toNat_natCast, X1, p1, Option.bind_some]
      · have sl : mx_we μ (σ 82 4) o p e 0 = if mx_alw (σ 82 4) 2 = true then [(2, (e : Int), (x : Int) * 30 + (o + 1) * 6 + p + 1, -1, -1, mx_pr 2 (mx_cR μ x) 0 (mx_cR μ (μ 9 e).toNat))] else [] := by
          have s1 : mx_slots (μ 5 e) = 1 := by rw [k3]; rfl
          rw [mx_we_S (by omega), mx_we_0 (by omega), List.append_nil]
          unfold mx_sl mx_pe
          rw [if_neg k1, if_pos k3, hx]
          simp only [if_neg k1, y8]
          rw [k3]
          cases mx_alw (σ 82 4) 2 <;> rfl
        rw [sl]; exact p3
    · have h4 : 4 ≤ μ 5 e := by omega
      have ix89 : ∀ {q : Option am_R}, am_ix 89 (e : Int) q = q := fun {q} => ix_89 I.1 I.2
      rw [if_neg k3, ix_89 I.1 I.2]
      by_cases k4 : μ 5 e = 4
      · have y8 : μ 8 e = -1 := kk.2.mp (by omega)
        obtain ⟨σ', p1, p2, p3⟩ := mo_wb_loop (n := n) hg d e he hH h4 o p ho x ⟨hx, xx.2⟩ (Or.inl ⟨y8, k4⟩) 9 (σ 82 4) (by rw [if_pos k4]) 3 0 σ W (by rw [k4]; rfl) h hW (by omega) rfl
        refine ⟨σ', ?_, p2, p3⟩
        rw [y8, k4] at p1
        rw [if_pos (by omega), mo_waysBy_154_e, if_pos rfl, if_pos rfl, mo_waysBy_185_e, if_neg (by decide)]
        exact p1
      · have y8 : μ 8 e ≠ -1 := fun q => by have := kk.2.mpr q; omega
        have yy : 0 ≤ μ 8 e ∧ μ 8 e < μ 2 9 ∧ μ 10 (μ 8 e).toNat = μ 8 e := by rcases s.2.2 with q | q; exact absurd q y8; exact q
        have c6 := b6 (by omega)
        have k56 : μ 5 e = 5 ∨ μ 5 e = 6 := by omega
        have f4 : mx_first (μ 5 e) = 4 ∧ mx_slots (μ 5 e) = 6 := by rcases k56 with q | q <;> rw [q] <;> decide
        obtain ⟨σ', p1, p2, p3⟩ := mo_wb_loop (n := n) hg d e he hH h4 o p ho x ⟨hx, xx.2⟩ (Or.inr ⟨yy, k56⟩) 6 (σ 82 4) (by rw [if_neg k4]) 5 0 σ W (by omega) h hW (by omega) rfl
        refine ⟨σ', ?_, p2, p3⟩
        rw [f4.1] at p1
        rw [if_neg (by omega), ix_92 I.1 I.2, root _ c6.1 c6.2.1, Option.bind_some, c6.2.2]
        dsimp only
        rw [mo_waysBy_154_e, if_neg y8, if_neg y8, mo_waysBy_185_e, if_neg (by decide)]
        exact p1
theorem mx_we_len (al o p : Int) (e : Nat) (σ : am_M) (s : Nat) : (mx_we σ al o p e s).length ≤ mx_slots (σ 5 e) - s := by
  unfold mx_we
  have := List.length_filterMap_le (mx_sl σ al o p e) ((List.range (mx_slots (σ 5 e) - s)).map (s + ·))
  rw [List.length_map, List.length_range] at this
  exact this
theorem mx_slots6 {k : Int} (h : mx_kd k) : mx_slots k ≤ 6 := by
  rcases mx_kd_n h with q | q | q | q | q <;> rw [q] <;> decide
/-- the expressions' ways, from number a on -/
theorem mo_wo_31 (hg : mx_gd μ) (d g : Nat) (hgg : (g : Int) < μ 2 9) (o p : Int) (ho : -1 ≤ o ∧ o ≤ 3) (hp : -1 ≤ p ∧ p ≤ 4) (al : Int) : ∀ (t a : Nat) (σ : am_M) (W : List mx_wt), (a : Int) + t = μ 2 3 → mx_rW μ σ → mx_LW σ W → W.length ≤ 6 * a → σ 82 4 = al →
    ∃ σ' : am_M, mo_waysOf_31 (d + 11) g o p a σ n = mo_waysOf_31 (d + 11) g o p (μ 2 3) σ' n ∧ mx_Fq mx_Cw [(82, 35)] σ σ' ∧ mx_LW σ' (W ++ mx_wm μ al g o p t a) ∧ (W ++ mx_wm μ al g o p t a).length ≤ 384 := by
  have h64 := hg.2.1
  have wg := hg.1.2.1
  intro t
  induction t with
  | zero =>
    intro a σ W ha h hW hL hal
    refine ⟨σ, by rw [show (a : Int) = μ 2 3 by omega], mx_fq_rf, ?_, ?_⟩
    · rw [show mx_wm μ al g o p 0 a = [] from rfl, List.append_nil]; exact hW
    · rw [show mx_wm μ al g o p 0 a = [] from rfl, List.append_nil]; omega
  | succ t ih =>
    intro a σ W ha h hW hL hal
    have he : (a : Int) < μ 2 3 := by omega
    obtain ⟨hRe, hRi, r1, r2, r3, r4, r5⟩ := h.1.1
    obtain ⟨a1, a2, a3, a4⟩ := hRe a he
    have I : (0 : Int) ≤ (a : Int) ∧ (a : Int) < 144 := ⟨by omega, by omega⟩
    have a1k : (a : Int) < 1000 := by omega
    have mS : mx_wm μ al g o p (t + 1) a = (if μ 9 a = g then mx_we μ al o p a 0 else []) ++ mx_wm μ al g o p t (a + 1) := rfl
    rw [mo_waysOf_31_e, r1, if_pos he, ix_95 I.1 I.2, ix_93 I.1 I.2, mS, ← List.append_assoc, mx_w_nat a1k, Int.toNat_natCast, a3]
    have skip : μ 9 a ≠ g → ∃ σ' : am_M, mo_waysOf_31 (d + 11) g o p ((a + 1 : Nat) : Int) σ n = mo_waysOf_31 (d + 11) g o p (μ 2 3) σ' n ∧ mx_Fq mx_Cw [(82, 35)] σ σ' ∧ mx_LW σ' (W ++ (if μ 9 a = g then mx_we μ al o p a 0 else []) ++ mx_wm μ al g o p t (a + 1)) ∧ (W ++ (if μ 9 a = g then mx_we μ al o p a 0 else []) ++ mx_wm μ al g o p t (a + 1)).length ≤ 384 := fun q => by
      rw [if_neg q, List.append_nil]
      exact ih (a + 1) σ W (by omega) h hW (by omega) hal
    by_cases hH : μ 9 a = -1
    · rw [if_pos hH, if_neg (by decide)]
      exact skip (by omega)
    · have s := hg.1.2.2.1.1 a he hH
      obtain ⟨⟨b1, b2, b3⟩, -⟩ := a4 hH
      rw [if_neg hH, if_pos rfl, mo_root_s (d + 10) σ n hRi (by omega) _ b1 b2, Option.bind_some, b3]
      dsimp only
      by_cases q : μ 9 a = g
      · have l6 := mx_we_len al o p a μ 0
        have s6 := mx_slots6 (hg.1.2.2.2.1 a he).1
        obtain ⟨σ1, p1, p2, p3⟩ := mo_waysBy_s (n := n) hg d a he hH o p ho hp σ W h hW (by omega)
        rw [if_pos q, p1, Option.bind_some, if_pos q]
        dsimp only
        rw [hal] at p3
        obtain ⟨σ', q1, q2, q3, q4⟩ := ih (a + 1) σ1 (W ++ mx_we μ al o p a 0) (by omega) (mx_rW_fr h p2) p3 (by rw [List.length_append]; omega) (by rw [mx_al_fr p2]; exact hal)
        exact ⟨σ', q1, mx_fq_tr p2 q2, q3, q4⟩
      · rw [if_neg q]
        exact skip q
end
