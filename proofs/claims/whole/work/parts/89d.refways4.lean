section
variable {n : Nat} {μ : am_M}
theorem mx_pg0 {g : Nat} : mx_pg μ g 0 = mx_pr 10 (mx_cR μ g) 0 (mx_cR μ g) := rfl
theorem mx_pg1 {g : Nat} : mx_pg μ g 1 = mx_pr 11 (mx_cR μ g) 0 (mx_cR μ g) := rfl
/-- SHIP -/
theorem mo_wo_130 (hg : mx_gd μ) (d g : Nat) (hgg : (g : Int) < μ 2 9) (hT : μ 10 g = g) (o p : Int) (hp : -1 ≤ p ∧ p ≤ 4) (σ : am_M) (W : List mx_wt) (h : mx_rW μ σ) (hW : mx_LW σ W) (hL : W.length < 390) :
    ∃ σ' : am_M, mo_waysOf_130 (d + 11) g o p (mx_cR μ g) σ n = some (0, σ', n) ∧ mx_Fq mx_Cw [(82, 35)] σ σ' ∧ mx_LW σ' (W ++ mx_wsp μ (σ 82 4) g o p) := by
  have h64 := hg.2.1
  have wg := hg.1.2.1
  have I : (0 : Int) ≤ (g : Int) ∧ (g : Int) < 144 := ⟨by omega, by omega⟩
  have I2 : (0 : Int) ≤ (g : Int) ∧ (g : Int) < 1000 := ⟨by omega, by omega⟩
  have rb := mx_cR_b hg g
  have z0 : (0 : Int) ≤ 0 ∧ (0 : Int) ≤ 1000000 := by decide
  have m1 : (-1 : Int) ≤ -1 ∧ (-1 : Int) ≤ 3 := by decide
  have m2 : (-1 : Int) ≤ -1 ∧ (-1 : Int) ≤ 4 := by decide
  have C1 := (h.2 g hgg hT).2
  have nil : (decide (o = -1) && (decide (p = 4) || mx_hc (μ 11 g) p)) = false → mx_LW σ (W ++ mx_wsp μ (σ 82 4) g o p) := fun q => by
    unfold mx_wsp
    rw [Int.toNat_natCast, Bool.and_assoc, q, Bool.and_false, if_neg (by decide), List.append_nil]; exact hW
  have yes : (decide (o = -1) && (decide (p = 4) || mx_hc (μ 11 g) p)) = true → ∃ σ' : am_M, mo_waysOf_162 (d + 11) g (mx_cR μ g) σ n = some (0, σ', n) ∧ mx_Fq mx_Cw [(82, 35)] σ σ' ∧ mx_LW σ' (W ++ mx_wsp μ (σ 82 4) g o p) := fun q => by
    obtain ⟨σ', p1, p2, p3⟩ := mo_way_s (n := n) (d + 1) 11 (-1) ((g : Int) * 30 + (-1 + 1) * 6 + -1 + 1) (-1) (-1) (mx_cR μ g) 0 (mx_cR μ g) σ W (by decide) rb z0 rb hW hL
    refine ⟨σ', ?_, p2, ?_⟩
    · rw [mo_waysOf_162_e, mo_demand_s _ _ _ _ _ _ I2 m1 m2, Option.bind_some]
      dsimp only
      rw [p1, Option.bind_some]
    · unfold mx_wsp
      rw [Int.toNat_natCast, Bool.and_assoc, q, Bool.and_true, mx_pg1]
      exact p3
  rw [mo_waysOf_130_e]
  by_cases ho : o = -1
  · rw [if_pos ho]
    rw [decide_eq_true ho, Bool.true_and] at nil yes
    by_cases p1 : p = -1
    · rw [if_pos p1]
      refine ⟨σ, rfl, mx_fq_rf, nil ?_⟩
      subst p1
      unfold mx_hc
      rfl
    · rw [if_neg p1]
      by_cases p4 : p = 4
      · rw [if_pos p4]
        exact yes (by rw [decide_eq_true p4, Bool.true_or])
      · rw [if_neg p4, ix_105 I.1 I.2, Int.toNat_natCast, C1, mo_isColumn_s, Option.bind_some]
        dsimp only
        rw [decide_eq_false p4, Bool.false_or] at nil yes
        cases c1 : mx_hc (μ 11 g) p with
        | false => exact ⟨σ, rfl, mx_fq_rf, nil c1⟩
        | true => rw [mx_bT]; exact yes c1
  · rw [if_neg ho]
    exact ⟨σ, rfl, mx_fq_rf, nil (by rw [decide_eq_false ho, Bool.false_and])⟩
/-- waysOf() of the reference -/
theorem mo_waysOf_s (hg : mx_gd μ) (d k : Nat) (hk : k < 1920) (hdd : mx_dd μ k) (σ : am_M) (h : mx_rW μ σ) :
    ∃ σ' : am_M, mo_waysOf (d + 12) k σ n = some (0, σ', n) ∧ mx_Fq mx_Cw [(82, 35)] σ σ' ∧ mx_LW σ' (mx_wl μ (σ 82 4) k) ∧ (mx_wl μ (σ 82 4) k).length ≤ 386 := by
  have h64 := hg.2.1
  have wg := hg.1.2.1
  have ob := mx_op k hk
  have t1 : am_w (Int.tdiv (k : Int) 30) = ((k / 30 : Nat) : Int) := by
    rw [show Int.tdiv (k : Int) 30 = ((k / 30 : Nat) : Int) by rw [Int.tdiv_eq_ediv_of_nonneg (by omega)]; omega, mx_w_id (by omega) (by omega)]
  have t2 : am_w (am_w (Int.tdiv (Int.tmod (k : Int) 30) 6) - 1) = ((k % 30 / 6 : Nat) : Int) - 1 := by
    rw [show Int.tmod (k : Int) 30 = ((k % 30 : Nat) : Int) by rw [Int.tmod_eq_emod_of_nonneg (by omega)]; omega, show Int.tdiv ((k % 30 : Nat) : Int) 6 = ((k % 30 / 6 : Nat) : Int) by rw [Int.tdiv_eq_ediv_of_nonneg (by omega)]; omega, mx_w_id (z := ((k % 30 / 6 : Nat) : Int)) (by omega) (by omega), mx_w_id (by omega) (by omega)]
  have t3 : am_w (Int.tmod (k : Int) 6 - 1) = ((k % 6 : Nat) : Int) - 1 := by
    rw [show Int.tmod (k : Int) 6 = ((k % 6 : Nat) : Int) by rw [Int.tmod_eq_emod_of_nonneg (by omega)]; omega, mx_w_id (by omega) (by omega)]
  rw [mo_waysOf_e, t1, t2, t3, mx_m]
  clear t1 t2 t3
  unfold mx_wl
  obtain ⟨o, ho⟩ : ∃ o, o = ((k % 30 / 6 : Nat) : Int) - 1 := ⟨_, rfl⟩
  obtain ⟨p, hp⟩ : ∃ p, p = ((k % 6 : Nat) : Int) - 1 := ⟨_, rfl⟩
  obtain ⟨g, hgn⟩ : ∃ g, g = k / 30 := ⟨_, rfl⟩
  unfold mx_dd at hdd
  rw [← ho, ← hp] at ob ⊢
  rw [← hgn] at hdd ⊢
  clear ho hp hgn
  obtain ⟨al, hal⟩ : ∃ al, al = σ 82 4 := ⟨_, rfl⟩
  rw [← hal]
  have F0 : mx_Fq mx_Cw [(82, 35)] σ (am_wr σ 82 35 0) := mx_fq_wr mx_fq_rf rfl
  have L0 : mx_LW (am_wr σ 82 35 0) [] := ⟨by rw [mx_wr_at]; rfl, fun i w q => by cases q⟩
  obtain ⟨σ1, p1, p2, p3, p4⟩ := mo_wo_31 (n := n) hg d g hdd.1 o p ob.1 ob.2 al (μ 2 3).toNat 0 (am_wr σ 82 35 0) [] (by omega) (mx_rW_fr h F0) L0 (by decide) (by rw [mx_al_fr F0]; exact hal.symm)
  have F1 := mx_fq_tr F0 p2
  have h1 := mx_rW_fr h F1
  have al1 : σ1 82 4 = al := by rw [mx_al_fr F1]; exact hal.symm
  rw [List.nil_append] at p3 p4
  obtain ⟨W, hWW⟩ : ∃ W, W = mx_wm μ al (g : Int) o p (μ 2 3).toNat 0 := ⟨_, rfl⟩
  rw [← hWW] at p3 p4 ⊢
  have I : (0 : Int) ≤ (g : Int) ∧ (g : Int) < 144 := ⟨by omega, by omega⟩
  have I2 : (0 : Int) ≤ (g : Int) ∧ (g : Int) < 1000 := ⟨by omega, by omega⟩
  have rb := mx_cR_b hg g
  have z0 : (0 : Int) ≤ 0 ∧ (0 : Int) ≤ 1000000 := by decide
  have m1 : (-1 : Int) ≤ -1 ∧ (-1 : Int) ≤ 3 := by decide
  have R1 := h1.2 g hdd.1 hdd.2
  have st1 : (mx_wst μ al g o p).length ≤ 1 := by unfold mx_wst; split; exact Nat.le_refl _; exact Nat.zero_le _
  have sp1 : (mx_wsp μ al g o p).length ≤ 1 := by unfold mx_wsp; split; exact Nat.le_refl _; exact Nat.zero_le _
  have ln : (W ++ mx_wst μ al (g : Int) o p ++ mx_wsp μ al (g : Int) o p).length ≤ 386 := by rw [List.length_append, List.length_append]; omega
  rw [show ((0 : Nat) : Int) = 0 from rfl] at p1
  rw [p1, mo_waysOf_31_e, h1.1.1.2.2.1, if_neg (Int.lt_irrefl _), ix_104 I.1 I.2, Int.toNat_natCast, R1.1]
  have fin : ∀ σ2 : am_M, mx_Fq mx_Cw [(82, 35)] σ σ2 → mx_LW σ2 (W ++ mx_wst μ al g o p) → ∃ σ' : am_M, mo_waysOf_130 (d + 11) g o p (mx_cR μ g) σ2 n = some (0, σ', n) ∧ mx_Fq mx_Cw [(82, 35)] σ σ' ∧ mx_LW σ' (W ++ mx_wst μ al g o p ++ mx_wsp μ al g o p) ∧ (W ++ mx_wst μ al g o p ++ mx_wsp μ al g o p).length ≤ 386 := fun σ2 q1 q2 => by
    obtain ⟨σ', r1, r2, r3⟩ := mo_wo_130 (n := n) hg d g hdd.1 hdd.2 o p ob.2 σ2 _ (mx_rW_fr h q1) q2 (by rw [List.length_append]; omega)
    rw [show σ2 82 4 = al by rw [mx_al_fr q1]; exact hal.symm] at r3
    exact ⟨σ', r1, mx_fq_tr q1 r2, r3, ln⟩
  have nil : mx_hc (μ 11 g) o = false → mx_LW σ1 (W ++ mx_wst μ al g o p) := fun q => by
    unfold mx_wst
    rw [Int.toNat_natCast, q, Bool.and_false, if_neg (by decide), List.append_nil]; exact p3
  by_cases o1 : o = -1
  · rw [if_pos o1]
    exact fin σ1 F1 (nil (by subst o1; unfold mx_hc; rfl))
  · rw [if_neg o1, ix_105 I.1 I.2, R1.2, mo_isColumn_s, Option.bind_some]
    dsimp only
    cases c1 : mx_hc (μ 11 g) o with
    | false => rw [mx_bF]; exact fin σ1 F1 (nil c1)
    | true =>
      obtain ⟨σ2, q1, q2, q3⟩ := mo_way_s (n := n) (d + 1) 10 (-1) ((g : Int) * 30 + (-1 + 1) * 6 + p + 1) (-1) (-1) (mx_cR μ g) 0 (mx_cR μ g) σ1 W (by decide) rb z0 rb p3 (by omega)
      rw [mx_bT, mo_demand_s _ _ _ _ _ _ I2 m1 ob.2, Option.bind_some]
      dsimp only
      rw [q1, Option.bind_some]
      refine fin σ2 (mx_fq_tr F1 q2) ?_
      unfold mx_wst
      rw [Int.toNat_natCast, c1, Bool.and_true, mx_pg0]
      rw [al1] at q3
      exact q3
end
