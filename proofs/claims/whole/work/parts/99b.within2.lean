section
variable {t n : Nat} {σ : am_M}
/-- within() -/
theorem within_c (hI : mx_Inv t n σ) (d : Nat) (v1 v2 v3 : Int) : mx_C t n σ (fun σ n => pm_within (d + 20) v1 v2 v3 σ n) (fun σ n => mo_within (d + 20) v1 v2 v3 σ n) := by
  have hb := mx_I_b hI
  have hg := mx_I_gd hI
  have h64 := hg.2.1
  have w2 := hg.1.2.1
  have e82 : ∀ k, (mx_rf σ k) 82 2 = σ 2 9 := fun k => by rw [mx_rf_ne (by decide)]; exact hb.2.2.2
  by_cases h1 : 0 ≤ v1 ∧ v1 < σ 2 9
  · by_cases h23 : (-1 ≤ v2 ∧ v2 ≤ 3) ∧ -1 ≤ v3 ∧ v3 ≤ 4
    · obtain ⟨h2, h3⟩ := h23
      have h23 : (-1 ≤ v2 ∧ v2 ≤ 3) ∧ -1 ≤ v3 ∧ v3 ≤ 4 := ⟨h2, h3⟩
      obtain ⟨D, d1, d2, r0⟩ := mx_dmd hg h1 h2 h3
      have Dl := mx_dd_lt hg d2
      have I : (0 : Int) ≤ (D : Int) ∧ (D : Int) < 1920 := ⟨by omega, by omega⟩
      have r1k : 0 ≤ σ 10 v1.toNat ∧ σ 10 v1.toNat < 1000 := ⟨r0.1, by omega⟩
      have b9 : σ 2 9 ≤ 64 := by omega
      obtain ⟨σ1, c, p1, p2⟩ := co_prepare_q (n := n) hI (d + 11) (σ 2 15)
      obtain ⟨σ2, s1, s2, s3, -⟩ := co_costOf_q (n := n) p2 (d + 11) D d2
      -- the reference, over a state of the class
      have ref : ∀ τ : am_M, mx_pq t σ τ (σ 2 15) c → ∃ (τ' : am_M) (N : Nat), mx_Inv (t + 1) n τ' ∧ mx_DU τ (σ 2 15) D (τ' 138) N ∧ (∀ j : Nat, j < 1920 → mx_clq τ (σ 2 15) (τ' 138) j) ∧ (∀ x, mx_dd τ x → mx_cap (τ' 107) x = c x) ∧ mo_within (d + 20) v1 v2 v3 τ n = mo_within_59 (d + 19) D 0 0 τ' n := fun τ hτ => by
        have hIτ := mx_pp_I0 hI hτ.1
        have gτ := mx_I_gd hIτ
        have K := mx_pp_k hτ.1
        have alτ : τ 82 4 = σ 2 15 := by rw [(mx_I_3 hIτ).1, K 2 (by decide)]
        obtain ⟨σ4, t1, t2, t3, t4, t5⟩ := mo_costs_q (n := n) gτ (mx_I_rl hIτ) alτ hτ.2 (d + 6)
        have al4 : σ4 82 4 = σ 2 15 := by rw [t2 82 4 (by decide) (by decide)]; exact alτ
        obtain ⟨σ5, N, b1, b2, b3, b4⟩ := mo_closes_s (n := n) gτ (d + 6) ((mx_pp_dd hτ.1).mpr d2) t3 al4
        have c107 : σ5 107 = σ4 107 := funext fun j => b2 107 j (by decide) (by simp)
        have rt : mo_root (d + 19) v1 σ4 n = some (σ 10 v1.toNat, σ4, n) := by
          have := mo_root_s (d + 18) σ4 n t3.1.1.2.1 (by rw [K 2 (by decide)]; omega) v1 h1.1 (by rw [K 2 (by decide)]; exact h1.2)
          rw [K 10 (by decide)] at this
          exact this
        refine ⟨σ5, N, mx_Inv_S (mx_Inv_cx hIτ (mx_fq_tr (mx_fq_up t2 rfl) (mx_fq_up b2 rfl))), b3, b4, fun x hx => by rw [c107]; exact t5 x hx, ?_⟩
        rw [mo_within_e, mo_isGroup_s, Option.bind_some, (mx_I_b hIτ).2.2.2, K 2 (by decide)]
        dsimp only
        rw [mx_bi_p h1, mo_isDemand_s, Option.bind_some]
        dsimp only
        rw [mx_bi_p h23, show mo_costs (d + 19) τ n = _ from t1, Option.bind_some]
        dsimp only
        rw [rt, Option.bind_some]
        dsimp only
        rw [mo_demand_s _ _ _ _ _ _ r1k h2 h3, Option.bind_some, d1]
        dsimp only
        rw [show mo_closes (d + 19) D σ4 n = _ from b1, Option.bind_some]
      have cls : ∀ x : Option am_R, (if 0 < am_cmp (c D) 1000000000000 then some (0, σ2, n) else (co_demandedWithin (d + 19) D (c D) σ2 n).bind fun q6 => some (q6.1, q6.2.1, q6.2.2)) = x → pm_within (d + 20) v1 v2 v3 σ n = x := fun x hx => by
        rw [pm_within_e, pm_demandRefusal_s, if_pos h1, if_pos h2, if_pos h3, Option.bind_some, if_pos rfl]
        dsimp only
        rw [me_root_s _ _ _ _ b9, if_pos h1, Option.bind_some]
        dsimp only
        rw [pm_demandOf_s _ _ _ _ _ _ r1k h2 h3, Option.bind_some, d1]
        dsimp only
        rw [show co_prepare (d + 19) (σ 2 15) σ n = _ from p1, Option.bind_some]
        dsimp only
        rw [show co_costOf (d + 19) D σ1 n = _ from s1, Option.bind_some]
        exact hx
      by_cases z : 1000000000000 < c D
      · obtain ⟨τ', N, q1, q2, q3, q4, q5⟩ := ref σ2 s2
        have cg := (mx_cap_gt (q4 D ((mx_pp_dd s2.1).mpr d2))).1.mpr z
        refine mx_C_of 0 σ2 τ' (cls _ (by rw [if_pos (mx_cmpG.mpr z)])) ?_ q1
        rw [q5, mo_within_59_e, if_pos (by decide), ix_107 I.1 I.2, Int.toNat_natCast, if_pos (mx_cmpG.mpr cg)]
      · obtain ⟨σ3, N, a1, a2, a3, a4, a5, a6, a7⟩ := co_demandedBy_q (n := n) s2.1 (d + 12) d2
        have c34 : σ3 34 = σ2 34 := funext fun j => a2 34 j (by decide) (by unfold mx_P38 mx_P37; simp)
        have PQ : mx_pq t σ σ3 (σ 2 15) c := ⟨a3, (mx_pp_sol a3).mpr ((mx_pp_sol s2.1).mp s2.2)⟩
        have g3 := a3.2.2.1
        have dd3 : mx_dd σ3 D := (mx_pp_dd a3).mpr d2
        obtain ⟨f0, fk⟩ := mx_pq_f0 PQ
        have cD := (PQ.2 D dd3).1
        have known : ∀ x : Nat, x < 1920 → σ3 36 x = 1 → σ3 34 x ≠ -1 := fun x hx hm => by
          refine a4.2.2.2.2 (fun y => σ3 34 y ≠ -1) ⟨?_, fun y hy hdy w hw => ?_⟩ x hx hm
          · show σ3 34 D ≠ -1
            rw [c34, s3]; omega
          · exact (((fk y (mx_dd_lt g3 hdy) hy).2.2 w hw).1)
        obtain ⟨τ', N', q1, q2, q3, q4, q5⟩ := ref σ3 PQ
        obtain ⟨eN, same⟩ := mx_cls_eq a4 a5 q2 q3 g3 dd3
        have cgD := (mx_cap_gt (q4 D dd3)).2 z
        have N19 : N ≤ 1920 := by rw [a4.1]; exact mx_cz_b _ _
        have r1 := co_demandedWithin_13_s (n := n) (d + 18) N N19 (c D) (fun k hk => by
          obtain ⟨x, x1, x2, -⟩ := a6 k hk
          exact ⟨x, x1, x2⟩) N 0 (Nat.zero_add _)
        have r2 := mo_within_59_s (n := n) (D := D) (d + 19) (c D) Dl cgD (by omega) q2.2.1 1920 0 rfl
        have cnt : mx_cz (fun k => decide (σ3 34 (σ3 35 k).toNat ≤ c D)) N = mx_cz (fun x => mx_on (τ' 138) x && decide (τ' 107 x ≤ c D)) 1920 := by
          rw [mx_cz_list (fun k => (σ3 35 k).toNat) (mx_on (σ3 36)) (fun x => decide (σ3 34 x ≤ c D)) N a4.1 (fun x hx hm => by
            obtain ⟨k, k1, k2⟩ := a7 x hx (of_decide_eq_true hm)
            exact ⟨k, k1, by rw [k2, Int.toNat_natCast]⟩)]
          refine mx_cz_eq 1920 (fun x hx => ?_)
          show (mx_on (σ3 36) x && decide (σ3 34 x ≤ c D)) = (mx_on (τ' 138) x && decide (τ' 107 x ≤ c D))
          have e1 : mx_on (τ' 138) x = mx_on (σ3 36) x := by unfold mx_on; rw [same x hx]
          rw [e1]
          cases m : mx_on (σ3 36) x with
          | false => rfl
          | true =>
            have hm := of_decide_eq_true m
            obtain ⟨y1, y2, -⟩ := fk x hx (known x hx hm)
            have cx := mx_cap_gt (q4 x y1)
            rw [Bool.true_and, Bool.true_and, y2]
            by_cases u : c x ≤ c D
            · have : τ' 107 x = c x := cx.2 (by omega)
              rw [this]
            · have nu : ¬ τ' 107 x ≤ c D := by
                by_cases u2 : 1000000000000 < c x
                · have := cx.1.mpr u2; omega
                · rw [cx.2 u2]; exact u
              rw [decide_eq_false u, decide_eq_false nu]
        refine mx_C_of ((mx_cz (fun k => decide (σ3 34 (σ3 35 k).toNat ≤ c D)) N : Nat) : Int) σ3 τ' (cls _ ?_) ?_ q1
        · rw [if_neg (fun a => z (mx_cmpG.mp a)), co_demandedWithin_e, show co_demandedBy (d + 18) D σ2 n = _ from a1, Option.bind_some]
          dsimp only
          rw [show co_demandedWithin_13 (d + 18) (c D) N 0 0 σ3 n = _ from r1, Option.bind_some]
        · rw [q5, cnt]
          exact r2
    · refine mx_C_ref hI 6 (-6) ?_ ?_
      · have r6 : (if -1 ≤ v2 ∧ v2 ≤ 3 then (if -1 ≤ v3 ∧ v3 ≤ 4 then (0 : Int) else 6) else 6) = 6 := by
          by_cases h2 : -1 ≤ v2 ∧ v2 ≤ 3
          · rw [if_pos h2, if_neg (fun h3 => h23 ⟨h2, h3⟩)]
          · rw [if_neg h2]
        rw [pm_within_e, pm_demandRefusal_s, if_pos h1, r6, Option.bind_some]
        dsimp only
        rw [if_neg (by decide), pm_refuse_s _ _ _ _ (by decide), Option.bind_some]; rfl
      · rw [mo_within_e, mo_isGroup_s, Option.bind_some, e82]
        dsimp only
        rw [mx_bi_p h1, mo_isDemand_s, Option.bind_some]
        dsimp only
        rw [mx_bi_n h23, mo_no_s _ _ _ _ (by decide), Option.bind_some]; rfl
  · refine mx_C_ref hI 1 (-1) ?_ ?_
    · rw [pm_within_e, pm_demandRefusal_s, if_neg h1, Option.bind_some]
      dsimp only
      rw [if_neg (by decide), pm_refuse_s _ _ _ _ (by decide), Option.bind_some]; rfl
    · rw [mo_within_e, mo_isGroup_s, Option.bind_some, e82]
      dsimp only
      rw [mx_bi_n h1, mo_no_s _ _ _ _ (by decide), Option.bind_some]; rfl
end
