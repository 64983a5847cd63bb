section
variable {t n : Nat} {σ : am_M}
abbrev mx_Cx : List Nat := [104, 105, 106, 107, 109, 110, 111, 112, 113, 114, 125, 126, 127, 128, 129, 130, 131, 132, 133, 138]
abbrev mx_Px : List (Nat × Nat) := [(82, 35), (82, 52)]
theorem mx_Inv_cx {τ τ' : am_M} (h : mx_Inv t n τ) (g : mx_Fq mx_Cx mx_Px τ τ') : mx_Inv t n τ' := by
  obtain ⟨i1, i2, i3, i4, i5, i6, i7, i8, i9, iA⟩ := h
  exact ⟨mx_I1_fr g rfl i1, mx_I2_fr g rfl i2, mx_I3_fr g rfl i3, mx_I4_fr g rfl i4, mx_I5_fr g rfl i5, mx_I6_fr g rfl i6, mx_I7_fr g rfl i7, mx_I8_fr g rfl i8, mx_I9_fr g (by decide +kernel) i9, mx_IA_fr g rfl iA⟩
theorem mx_pp_I (hI : mx_Inv t n σ) {σ' : am_M} {al : Int} (h : mx_pp (t + 1) σ σ' al) : mx_Inv (t + 1) n σ' := mx_Inv_by hI h.1 (hA := Or.inr h.2.1)
theorem mx_pp_S {σ' : am_M} {al : Int} (h : mx_pp t σ σ' al) : mx_pp (t + 1) σ σ' al := ⟨h.1, mx_IA_S h.2.1, h.2.2⟩
theorem pm_orNone_s (d : Nat) (v : Int) (σ : am_M) : pm_orNone (d + 1) v σ n = some (if 1000000000000 < v then -1 else v, σ, n) := by
  rw [pm_orNone_e]
  by_cases z : 1000000000000 < v
  · rw [if_pos (mx_cmpG.mpr z), if_pos z]
  · rw [if_neg (fun a => z (mx_cmpG.mp a)), if_neg z]
theorem mo_orNone_s (d : Nat) (v : Int) (σ : am_M) : mo_orNone (d + 1) v σ n = some (if 1000000000000 < v then -1 else v, σ, n) := by
  rw [mo_orNone_e]
  by_cases z : 1000000000000 < v
  · rw [if_pos (mx_cmpG.mpr z), if_pos z]
  · rw [if_neg (fun a => z (mx_cmpG.mp a)), if_neg z]
theorem mx_cap_or {c : Nat → Int} {d : Nat} : (if 1000000000000 < mx_cap c d then (-1 : Int) else mx_cap c d) = if 1000000000000 < c d then -1 else c d := by
  unfold mx_cap
  by_cases z : 1000000000000 < c d
  · rw [if_pos z, if_pos (by decide), if_pos z]
  · rw [if_neg z, if_neg z]
/-- a demand that is asked for -/
theorem mx_dmd (hg : mx_gd σ) {v1 v2 v3 : Int} (h1 : 0 ≤ v1 ∧ v1 < σ 2 9) (h2 : -1 ≤ v2 ∧ v2 ≤ 3) (h3 : -1 ≤ v3 ∧ v3 ≤ 4) : ∃ d : Nat, (σ 10 v1.toNat) * 30 + (v2 + 1) * 6 + v3 + 1 = d ∧ mx_dd σ d ∧ 0 ≤ σ 10 v1.toNat ∧ σ 10 v1.toNat < σ 2 9 := by
  have h64 := hg.2.1
  have w2 := hg.1.2.1
  have s := hg.1.2.2.1.2 v1.toNat (by omega)
  have r0 : 0 ≤ σ 10 v1.toNat ∧ σ 10 v1.toNat < σ 2 9 := ⟨s.1, by omega⟩
  rcases mx_vk_dm hg (o := v2) (p := v3) r0.1 r0.2 s.2.2 h2 h3 with q | ⟨d, q1, q2, q3⟩
  · unfold mx_dm at q; omega
  · exact ⟨d, q1, q3, r0⟩
/-- cost() -/
theorem cost_c (hI : mx_Inv t n σ) (d : Nat) (v1 v2 v3 : Int) : mx_C t n σ (fun σ n => pm_cost (d + 20) v1 v2 v3 σ n) (fun σ n => mo_cost (d + 20) v1 v2 v3 σ n) := by
  have hb := mx_I_b hI
  have hg := mx_I_gd hI
  have h64 := hg.2.1
  have w2 := hg.1.2.1
  have e82 : ∀ k, (mx_rf σ k) 82 2 = σ 2 9 := fun k => by rw [mx_rf_ne (by decide)]; exact hb.2.2.2
  by_cases h1 : 0 ≤ v1 ∧ v1 < σ 2 9
  · by_cases h2 : -1 ≤ v2 ∧ v2 ≤ 3
    · by_cases h3 : -1 ≤ v3 ∧ v3 ≤ 4
      · obtain ⟨D, d1, d2, r0⟩ := mx_dmd hg h1 h2 h3
        have Dl := mx_dd_lt hg d2
        obtain ⟨σ1, p1, p2⟩ := co_prepare_s (n := n) hI (d + 11) (σ 2 15)
        obtain ⟨q1, q2, q3, q4, q5, q6, q7, q8⟩ := p2
        have k : ∀ i, i < 29 → σ1 i = σ i := fun i q => funext fun j => q1 i j (by simp only [List.mem_cons, List.not_mem_nil, or_false, not_or]; omega) (by unfold mx_PP mx_P38 mx_P37; simp only [List.mem_cons, List.not_mem_nil, or_false, Prod.mk.injEq]; omega)
        have dd1 : mx_dd σ1 D := by unfold mx_dd at d2 ⊢; rw [k 2 (by decide), k 10 (by decide)]; exact d2
        obtain ⟨c, hc⟩ := mx_sol_ex q3 q4 (σ1 37 5)
        obtain ⟨σ2, s1, s2, s3, s4, -⟩ := co_costOf_s (n := n) q3 q5 hc q6 (d + 11) D dd1
        have P2 : mx_pp t σ σ2 (σ 2 15) := mx_pp_up ⟨q1, q2, q3, q4, q5, q6, q7, q8⟩ (mx_fq_up s2 rfl) s3
        have hI2 := mx_pp_I hI (mx_pp_S P2)
        have g2 := mx_I_gd hI2
        have k2 : ∀ i, i < 29 → σ2 i = σ i := fun i q => funext fun j => P2.1 i j (by simp only [List.mem_cons, List.not_mem_nil, or_false, not_or]; omega) (by unfold mx_PP mx_P38 mx_P37; simp only [List.mem_cons, List.not_mem_nil, or_false, Prod.mk.injEq]; omega)
        have al2 : σ2 82 4 = σ 2 15 := by rw [(mx_I_3 hI2).1, k2 2 (by decide)]
        obtain ⟨σ3, t1, t2, t3, t4, t5⟩ := mo_costs_s (n := n) g2 (mx_I_rl hI2) al2 (d + 6)
        have cf := mx_cf (mx_fq_up s2 rfl) q3 q5
        have dd2 : mx_dd σ2 D := (cf.2.2.2.1 D).mpr dd1
        have sc : mx_sol σ2 (σ 2 15) c := fun x hx => by
          rw [cf.2.2.1]
          have := hc x ((cf.2.2.2.1 x).mp hx)
          rw [q7] at this
          exact this
        have eq := mx_sol_eq g2 sc t5 D dd2
        have rt : mo_root (d + 19) v1 σ3 n = some (σ 10 v1.toNat, σ3, n) := by
          have := mo_root_s (d + 18) σ3 n t3.1.1.2.1 (by rw [k2 2 (by decide)]; omega) v1 h1.1 (by rw [k2 2 (by decide)]; exact h1.2)
          rw [k2 10 (by decide)] at this
          exact this
        have I : (0 : Int) ≤ (D : Int) ∧ (D : Int) < 1920 := ⟨by omega, by omega⟩
        have r1k : 0 ≤ σ 10 v1.toNat ∧ σ 10 v1.toNat < 1000 := ⟨r0.1, by omega⟩
        refine mx_C_of (if 1000000000000 < c D then -1 else c D) σ2 σ3 ?_ ?_ (mx_Inv_cx hI2 (mx_fq_up t2 rfl))
        · rw [pm_cost_e, me_isGroup_s, Option.bind_some]
          dsimp only
          rw [mx_bi_p h1, pm_isOrder_s, Option.bind_some]
          dsimp only
          rw [mx_bi_p h2, pm_isPlace_s, Option.bind_some]
          dsimp only
          rw [mx_bi_p h3, show co_prepare (d + 19) (σ 2 15) σ n = _ from p1, Option.bind_some]
          dsimp only
          rw [me_root_s _ _ _ _ (by rw [k 2 (by decide)]; omega), k 2 (by decide), if_pos h1, k 10 (by decide), Option.bind_some]
          dsimp only
          rw [pm_demandOf_s _ _ _ _ _ _ r1k h2 h3, Option.bind_some, d1]
          dsimp only
          rw [show co_costOf (d + 19) D σ1 n = _ from s1, Option.bind_some]
          dsimp only
          rw [pm_orNone_s, Option.bind_some]
        · have h23 : (-1 ≤ v2 ∧ v2 ≤ 3) ∧ -1 ≤ v3 ∧ v3 ≤ 4 := ⟨h2, h3⟩
          rw [mo_cost_e, mo_isGroup_s, Option.bind_some, (mx_I_b hI2).2.2.2, k2 2 (by decide)]
          dsimp only
          rw [mx_bi_p h1, mo_isDemand_s, Option.bind_some]
          dsimp only
          rw [mx_bi_p h23, show mo_costs (d + 19) σ2 n = _ from t1, Option.bind_some]
          dsimp only
          rw [rt, Option.bind_some]
          dsimp only
          rw [mo_demand_s _ _ _ _ _ _ r1k h2 h3, Option.bind_some, d1]
          dsimp only
          rw [ix_107 I.1 I.2, Int.toNat_natCast, mo_orNone_s, Option.bind_some, eq, mx_cap_or]
      · refine mx_C_ref hI 6 (-16) ?_ ?_
        · rw [pm_cost_e, me_isGroup_s, Option.bind_some]
          dsimp only
          rw [mx_bi_p h1, pm_isOrder_s, Option.bind_some]
          dsimp only
          rw [mx_bi_p h2, pm_isPlace_s, Option.bind_some]
          dsimp only
          rw [mx_bi_n h3, pm_refuseFar_s _ _ _ _ (by decide), Option.bind_some]; rfl
        · have h23 : ¬ ((-1 ≤ v2 ∧ v2 ≤ 3) ∧ -1 ≤ v3 ∧ v3 ≤ 4) := fun q => h3 q.2
          rw [mo_cost_e, mo_isGroup_s, Option.bind_some, e82]
          dsimp only
          rw [mx_bi_p h1, mo_isDemand_s, Option.bind_some]
          dsimp only
          rw [mx_bi_n h23, mo_noTen_s _ _ _ _ (by decide), Option.bind_some]; rfl
    · refine mx_C_ref hI 6 (-16) ?_ ?_
      · rw [pm_cost_e, me_isGroup_s, Option.bind_some]
        dsimp only
        rw [mx_bi_p h1, pm_isOrder_s, Option.bind_some]
        dsimp only
        rw [mx_bi_n h2, pm_refuseFar_s _ _ _ _ (by decide), Option.bind_some]; rfl
      · have h23 : ¬ ((-1 ≤ v2 ∧ v2 ≤ 3) ∧ -1 ≤ v3 ∧ v3 ≤ 4) := fun q => h2 q.1
        rw [mo_cost_e, mo_isGroup_s, Option.bind_some, e82]
        dsimp only
        rw [mx_bi_p h1, mo_isDemand_s, Option.bind_some]
        dsimp only
        rw [mx_bi_n h23, mo_noTen_s _ _ _ _ (by decide), Option.bind_some]; rfl
  · refine mx_C_ref hI 1 (-11) ?_ ?_
    · rw [pm_cost_e, me_isGroup_s, Option.bind_some]
      dsimp only
      rw [mx_bi_n h1, pm_refuseFar_s _ _ _ _ (by decide), Option.bind_some]; rfl
    · rw [mo_cost_e, mo_isGroup_s, Option.bind_some, e82]
      dsimp only
      rw [mx_bi_n h1, mo_noTen_s _ _ _ _ (by decide), Option.bind_some]; rfl
end
