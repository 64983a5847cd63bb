section
variable {t n : Nat} {σ : am_M} {al : Int} {c : Nat → Int}
theorem mx_pp_I0 (hI : mx_Inv t n σ) {σ' : am_M} (h : mx_pp t σ σ' al) : mx_Inv t n σ' :=
  ⟨mx_I1_fr h.1 (by decide +kernel) hI.1, mx_I2_fr h.1 (by decide +kernel) hI.2.1, mx_I3_fr h.1 (by decide +kernel) hI.2.2.1, mx_I4_fr h.1 (by decide +kernel) hI.2.2.2.1, mx_I5_fr h.1 (by decide +kernel) hI.2.2.2.2.1, mx_I6_fr h.1 (by decide +kernel) hI.2.2.2.2.2.1, mx_I7_fr h.1 (by decide +kernel) hI.2.2.2.2.2.2.1, mx_I8_fr h.1 (by decide +kernel) hI.2.2.2.2.2.2.2.1, mx_I9_fr h.1 (by decide +kernel) hI.2.2.2.2.2.2.2.2.1, h.2.1⟩
theorem mx_pp_wl {σ1 : am_M} (h : mx_pp t σ σ1 al) (al' : Int) (d : Nat) : mx_wl σ1 al' d = mx_wl σ al' d := mx_wl_fr h.1 rfl al' d
theorem mx_pp_sol {σ1 : am_M} (h : mx_pp t σ σ1 al) {al' : Int} : mx_sol σ1 al' c ↔ mx_sol σ al' c := by
  unfold mx_sol
  constructor
  · intro q d hd
    have := q d ((mx_pp_dd h).mpr hd)
    rw [mx_pp_wl h] at this
    exact this
  · intro q d hd
    rw [mx_pp_wl h]
    exact q d ((mx_pp_dd h).mp hd)
theorem mx_cap_gt {f : Nat → Int} {D : Nat} {v : Int} (h : mx_cap f D = v) : (1000000000000 < f D ↔ 1000000000000 < v) ∧ (¬ 1000000000000 < v → f D = v) := by
  subst h
  unfold mx_cap
  split
  · exact ⟨⟨fun _ => by decide, fun _ => by assumption⟩, fun q => absurd (by decide) q⟩
  · exact ⟨Iff.rfl, fun _ => rfl⟩
/-- worth() -/
theorem worth_c (hI : mx_Inv t n σ) (d : Nat) (v1 v2 v3 v4 : Int) : mx_C t n σ (fun σ n => pm_worth (d + 20) v1 v2 v3 v4 σ n) (fun σ n => mo_worth (d + 20) v1 v2 v3 v4 σ n) := by
  have hb := mx_I_b hI
  have hg := mx_I_gd hI
  have h64 := hg.2.1
  have w2 := hg.1.2.1
  have e82 : ∀ k, (mx_rf σ k) 82 2 = σ 2 9 := fun k => by rw [mx_rf_ne (by decide)]; exact hb.2.2.2
  by_cases h1 : 0 ≤ v1 ∧ v1 < σ 2 9
  · by_cases h4 : v4 = 1 ∨ v4 = 2 ∨ (4 ≤ v4 ∧ v4 ≤ 6) ∨ (8 ≤ v4 ∧ v4 ≤ 11)
    · by_cases h2 : -1 ≤ v2 ∧ v2 ≤ 3
      · by_cases h3 : -1 ≤ v3 ∧ v3 ≤ 4
        · obtain ⟨D, d1, d2, r0⟩ := mx_dmd hg h1 h2 h3
          have Dl := mx_dd_lt hg d2
          obtain ⟨B, hB⟩ : ∃ B, B = am_and (σ 2 15) (am_xor (am_shl 1 v4) (-1)) := ⟨_, rfl⟩
          obtain ⟨σ1, c, p1, p2⟩ := co_prepare_q (n := n) hI (d + 11) (σ 2 15)
          obtain ⟨σ2, s1, s2, -, -⟩ := co_costOf_q (n := n) p2 (d + 11) D d2
          have hI2 := mx_pp_I0 hI s2.1
          have K2 := mx_pp_k s2.1
          obtain ⟨σ3, c', u1, u2⟩ := co_prepare_q (n := n) hI2 (d + 11) B
          obtain ⟨σ4, x1, x2, -, -⟩ := co_costOf_q (n := n) u2 (d + 11) D ((mx_pp_dd s2.1).mpr d2)
          have hI4 := mx_pp_I0 hI2 x2.1
          have g4 := mx_I_gd hI4
          have K4 := mx_pp_k x2.1
          have k4 : ∀ i, i < 29 → σ4 i = σ i := fun i q => (K4 i q).trans (K2 i q)
          have al4 : σ4 82 4 = σ 2 15 := by rw [(mx_I_3 hI4).1, k4 2 (by decide)]
          have sol4 : mx_sol σ4 (σ 2 15) c := (mx_pp_sol x2.1).mpr s2.2
          have dd4 : mx_dd σ4 D := (mx_pp_dd x2.1).mpr ((mx_pp_dd s2.1).mpr d2)
          obtain ⟨σ5, t1, t2, t3, t4, t5⟩ := mo_costs_q (n := n) g4 (mx_I_rl hI4) al4 sol4 (d + 6)
          have a5 : σ5 82 4 = σ 2 15 := by rw [t2 82 4 (by decide) (by decide)]; exact al4
          have F6 : mx_Fq [] [(82, 4)] σ5 (am_wr σ5 82 4 B) := mx_fq_wr mx_fq_rf rfl
          have rl6 : mx_rl σ4 (am_wr σ5 82 4 B) := mx_rl_fr t3.1 (fun i j a b => F6 i j (by simp) (by simp; omega)) (fun j hj => F6 82 j (by simp) (by simp; omega))
          obtain ⟨σ7, y1, y2, y3, y4, y5⟩ := mo_costs_q (n := n) g4 rl6 (al := B) mx_wr_at x2.2 (d + 6)
          obtain ⟨σ8, h8⟩ : ∃ σ8, σ8 = am_wr σ7 82 4 (σ 2 15) := ⟨_, rfl⟩
          have F8 : mx_Fq mx_Cx mx_Px σ4 σ8 := fun i j hi hj => by
            by_cases z : i = 82 ∧ j = 4
            · obtain ⟨z1, z2⟩ := z
              subst z1; subst z2
              rw [h8, mx_wr_at, al4]
            · have nz : (i, j) ∉ [((82 : Nat), (4 : Nat))] := by
                simp only [List.mem_cons, List.not_mem_nil, or_false, Prod.mk.injEq]; exact z
              have F7 : mx_Fq mx_Cx ((82, 4) :: mx_Px) σ4 σ8 := by
                rw [h8]
                exact mx_fq_wr (mx_fq_tr (mx_fq_up t2 rfl) (mx_fq_tr (mx_fq_up F6 rfl) (mx_fq_up y2 rfl))) rfl
              exact F7 i j hi (by
                simp only [List.mem_cons, List.not_mem_nil, or_false] at hj nz ⊢
                intro q
                rcases q with q | q
                · exact nz q
                · exact hj q)
          have cg := mx_cap_gt (t5 D dd4)
          have cg' := mx_cap_gt (y5 D dd4)
          have I : (0 : Int) ≤ (D : Int) ∧ (D : Int) < 1920 := ⟨by omega, by omega⟩
          have r1k : 0 ≤ σ 10 v1.toNat ∧ σ 10 v1.toNat < 1000 := ⟨r0.1, by omega⟩
          have rt : mo_root (d + 19) v1 σ4 n = some (σ 10 v1.toNat, σ4, n) := by
            have := mo_root_s (d + 18) σ4 n (mx_I_rl hI4).1.2.1 (by rw [k4 2 (by decide)]; omega) v1 h1.1 (by rw [k4 2 (by decide)]; exact h1.2)
            rw [k4 10 (by decide)] at this
            exact this
          have b9 : σ 2 9 ≤ 64 := by omega
          refine mx_C_of (if 1000000000000 < c D then -1 else if 1000000000000 < c' D then -1 else am_x (c' D - c D)) σ4 σ8 ?_ ?_ (mx_Inv_S (mx_Inv_cx hI4 F8))
          · rw [pm_worth_e, me_isGroup_s, Option.bind_some]
            dsimp only
            rw [mx_bi_p h1, pm_isAllowable_s, Option.bind_some]
            dsimp only
            rw [mx_bi_p h4, pm_isOrder_s, Option.bind_some]
            dsimp only
            rw [mx_bi_p h2, pm_isPlace_s, Option.bind_some]
            dsimp only
            rw [mx_bi_p h3, me_root_s _ _ _ _ b9, if_pos h1, Option.bind_some]
            dsimp only
            rw [pm_demandOf_s _ _ _ _ _ _ r1k h2 h3, Option.bind_some, d1]
            dsimp only
            rw [show co_prepare (d + 19) (σ 2 15) σ n = _ from p1, Option.bind_some]
            dsimp only
            rw [show co_costOf (d + 19) D σ1 n = _ from s1, Option.bind_some]
            dsimp only
            rw [K2 2 (by decide), ← hB, show co_prepare (d + 19) B σ2 n = _ from u1, Option.bind_some]
            dsimp only
            rw [show co_costOf (d + 19) D σ3 n = _ from x1, Option.bind_some]
            dsimp only
            by_cases z1 : 1000000000000 < c D
            · rw [if_pos (mx_cmpG.mpr z1), if_pos z1]
            · rw [if_neg (fun a => z1 (mx_cmpG.mp a)), if_neg z1]
              by_cases z2 : 1000000000000 < c' D
              · rw [if_pos (mx_cmpG.mpr z2), if_pos z2]
              · rw [if_neg (fun a => z2 (mx_cmpG.mp a)), if_neg z2]
          · have h23 : (-1 ≤ v2 ∧ v2 ≤ 3) ∧ -1 ≤ v3 ∧ v3 ≤ 4 := ⟨h2, h3⟩
            rw [mo_worth_e, mo_isGroup_s, Option.bind_some, (mx_I_b hI4).2.2.2, k4 2 (by decide)]
            dsimp only
            rw [mx_bi_p h1, mo_isWay_s, Option.bind_some]
            dsimp only
            rw [mx_bi_p h4, mo_isDemand_s, Option.bind_some]
            dsimp only
            rw [mx_bi_p h23, rt, Option.bind_some]
            dsimp only
            rw [mo_demand_s _ _ _ _ _ _ r1k h2 h3, Option.bind_some, d1]
            dsimp only
            rw [show mo_costs (d + 19) σ4 n = _ from t1, Option.bind_some, ix_107 I.1 I.2, mx_m]
            dsimp only
            rw [a5, ← hB, show mo_costs (d + 19) (am_wr σ5 82 4 B) n = _ from y1, Option.bind_some, ix_107 I.1 I.2, mx_m, Int.toNat_natCast]
            dsimp only
            rw [al4, ← h8]
            by_cases z1 : 1000000000000 < c D
            · rw [if_pos (mx_cmpG.mpr (cg.1.mpr z1)), if_pos z1]
            · rw [if_neg (fun a => z1 (cg.1.mp (mx_cmpG.mp a))), if_neg z1, cg.2 z1]
              by_cases z2 : 1000000000000 < c' D
              · rw [if_pos (mx_cmpG.mpr (cg'.1.mpr z2)), if_pos z2]
              · rw [if_neg (fun a => z2 (cg'.1.mp (mx_cmpG.mp a))), if_neg z2, cg'.2 z2]
        · have h23 : ¬ ((-1 ≤ v2 ∧ v2 ≤ 3) ∧ -1 ≤ v3 ∧ v3 ≤ 4) := fun q => h3 q.2
          refine mx_C_ref hI 6 (-16) ?_ ?_
          · rw [pm_worth_e, me_isGroup_s, Option.bind_some]
            dsimp only
            rw [mx_bi_p h1, pm_isAllowable_s, Option.bind_some]
            dsimp only
            rw [mx_bi_p h4, pm_isOrder_s, Option.bind_some]
            dsimp only
            rw [mx_bi_p h2, pm_isPlace_s, Option.bind_some]
            dsimp only
            rw [mx_bi_n h3, pm_refuseFar_s _ _ _ _ (by decide), Option.bind_some]; rfl
          · rw [mo_worth_e, mo_isGroup_s, Option.bind_some, e82]
            dsimp only
            rw [mx_bi_p h1, mo_isWay_s, Option.bind_some]
            dsimp only
            rw [mx_bi_p h4, mo_isDemand_s, Option.bind_some]
            dsimp only
            rw [mx_bi_n h23, mo_noTen_s _ _ _ _ (by decide), Option.bind_some]; rfl
      · have h23 : ¬ ((-1 ≤ v2 ∧ v2 ≤ 3) ∧ -1 ≤ v3 ∧ v3 ≤ 4) := fun q => h2 q.1
        refine mx_C_ref hI 6 (-16) ?_ ?_
        · rw [pm_worth_e, me_isGroup_s, Option.bind_some]
          dsimp only
          rw [mx_bi_p h1, pm_isAllowable_s, Option.bind_some]
          dsimp only
          rw [mx_bi_p h4, pm_isOrder_s, Option.bind_some]
          dsimp only
          rw [mx_bi_n h2, pm_refuseFar_s _ _ _ _ (by decide), Option.bind_some]; rfl
        · rw [mo_worth_e, mo_isGroup_s, Option.bind_some, e82]
          dsimp only
          rw [mx_bi_p h1, mo_isWay_s, Option.bind_some]
          dsimp only
          rw [mx_bi_p h4, mo_isDemand_s, Option.bind_some]
          dsimp only
          rw [mx_bi_n h23, mo_noTen_s _ _ _ _ (by decide), Option.bind_some]; rfl
    · refine mx_C_ref hI 1 (-11) ?_ ?_
      · rw [pm_worth_e, me_isGroup_s, Option.bind_some]
        dsimp only
        rw [mx_bi_p h1, pm_isAllowable_s, Option.bind_some]
        dsimp only
        rw [mx_bi_n h4, pm_refuseFar_s _ _ _ _ (by decide), Option.bind_some]; rfl
      · rw [mo_worth_e, mo_isGroup_s, Option.bind_some, e82]
        dsimp only
        rw [mx_bi_p h1, mo_isWay_s, Option.bind_some]
        dsimp only
        rw [mx_bi_n h4, mo_noTen_s _ _ _ _ (by decide), Option.bind_some]; rfl
  · refine mx_C_ref hI 1 (-11) ?_ ?_
    · rw [pm_worth_e, me_isGroup_s, Option.bind_some]
      dsimp only
      rw [mx_bi_n h1, pm_refuseFar_s _ _ _ _ (by decide), Option.bind_some]; rfl
    · rw [mo_worth_e, mo_isGroup_s, Option.bind_some, e82]
      dsimp only
      rw [mx_bi_n h1, mo_noTen_s _ _ _ _ (by decide), Option.bind_some]; rfl
end
