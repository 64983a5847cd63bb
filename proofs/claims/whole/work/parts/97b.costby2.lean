section
variable {t n : Nat} {σ μ : am_M} {al : Int} {c : Nat → Int}
/-- what is known after costOf() -/
theorem mx_pq_f0 {σ1 : am_M} (h : mx_pq t σ σ1 al c) : mx_f0 (σ1 34) ∧ ∀ D : Nat, D < 1920 → σ1 34 D ≠ -1 → mx_dd σ1 D ∧ σ1 34 D = c D ∧ ∀ w ∈ mx_wl σ1 al D, (mx_kn σ1 w.2.2.1 ∧ mx_kn σ1 w.2.2.2.1) ∧ mx_in (σ1 34) w.2.2.1 = mx_in c w.2.2.1 ∧ mx_in (σ1 34) w.2.2.2.1 = mx_in c w.2.2.2.1 := by
  obtain ⟨⟨q1, q2, q3, q4, q5, ⟨c0, s1, s2⟩, q7, q8⟩, hc⟩ := h
  rw [q7] at s1 s2
  have val : ∀ x : Nat, x < 1920 → σ1 34 x ≠ -1 → σ1 34 x = c x := fun x hx hk => by
    obtain ⟨a1, a2, -⟩ := s2 x hx hk
    rw [a2]; exact mx_sol_eq q3 s1 hc x a1
  have vin : ∀ v, mx_vk σ1 v → mx_kn σ1 v → mx_in (σ1 34) v = mx_in c v := fun v hv hk => by
    unfold mx_in mx_kn at *
    rcases hv with q | ⟨j, j1, j2, -⟩
    · rw [if_pos q, if_pos q]
    · have nv : ¬ v = -1 := by omega
      rcases hk with z | z
      · exact absurd z nv
      · rw [if_neg nv, if_neg nv]
        rw [j1, Int.toNat_natCast] at z ⊢
        exact val j j2 z
  refine ⟨fun j hj => ?_, fun D hD hk => ?_⟩
  · by_cases z : σ1 34 j = -1
    · rw [z]; decide
    · obtain ⟨a1, -, -⟩ := s2 j hj z
      have := (hc j a1).1
      rw [val j hj z]; omega
  · obtain ⟨a1, a2, a3⟩ := s2 D hD hk
    refine ⟨a1, val D hD hk, fun w hw => ?_⟩
    have ok := mx_wl_ok q3 a1 hw
    have k := a3 w hw
    exact ⟨k, vin _ ok.1 k.1, vin _ ok.2.1 k.2⟩
/-- costBy() -/
theorem costBy_c (hI : mx_Inv t n σ) (d : Nat) (v1 v2 v3 : Int) : mx_C t n σ (fun σ n => pm_costBy (d + 20) v1 v2 v3 σ n) (fun σ n => mo_costBy (d + 20) v1 v2 v3 σ n) := by
  have hb := mx_I_b hI
  have hg := mx_I_gd hI
  have h64 := hg.2.1
  have w2 := hg.1.2.1
  have e82 : ∀ k, (mx_rf σ k) 82 1 = σ 2 3 := fun k => by rw [mx_rf_ne (by decide)]; exact hb.2.2.1
  by_cases h1 : 0 ≤ v1 ∧ v1 < σ 2 3
  · obtain ⟨e, rfl⟩ : ∃ e : Nat, v1 = e := ⟨v1.toNat, by omega⟩
    have E64 : 0 ≤ (e : Int) ∧ (e : Int) < 64 := ⟨by omega, by omega⟩
    have E144 : (0 : Int) ≤ (e : Int) ∧ (e : Int) < 144 := ⟨by omega, by omega⟩
    have gone : ∀ τ : am_M, τ 95 = σ 95 → τ 95 e = if σ 9 e = -1 then 1 else 0 := fun τ q => by rw [q]; exact ((mx_I_R hI).1 e h1.2).2.2.1
    have gone0 : ∀ τ : am_M, τ 95 = σ 95 → σ 9 e ≠ -1 → τ 95 e = 0 := fun τ q z => by rw [gone τ q, if_neg z]
    have gone1 : ∀ τ : am_M, τ 95 = σ 95 → σ 9 e = -1 → ¬ τ 95 e = 0 := fun τ q z => by rw [gone τ q, if_pos z]; decide
    by_cases hH : σ 9 e = -1
    · refine mx_C_ref hI 1 (-11) ?_ ?_
      · rw [pm_costBy_e, me_isExpression_s, Option.bind_some]
        dsimp only
        rw [mx_bi_p h1, me_isGone_s _ _ _ _ E64, Option.bind_some, Int.toNat_natCast]
        dsimp only
        rw [mx_bi_p hH, pm_refuseFar_s _ _ _ _ (by decide), Option.bind_some]; rfl
      · rw [mo_costBy_e, mo_isExpression_s, Option.bind_some, e82]
        dsimp only
        rw [mx_bi_p h1, ix_95 E144.1 E144.2, Int.toNat_natCast, if_neg (gone1 _ (mx_rf_ne (by decide)) hH), mo_noTen_s _ _ _ _ (by decide), Option.bind_some]; rfl
    · by_cases h2 : -1 ≤ v2 ∧ v2 ≤ 3
      · by_cases h3 : -1 ≤ v3 ∧ v3 ≤ 4
        · have s := hg.1.2.2.1.1 e h1.2 hH
          obtain ⟨D, d1, d2, Dl⟩ : ∃ D : Nat, (σ 9 e) * 30 + (v2 + 1) * 6 + v3 + 1 = D ∧ mx_dd σ D ∧ D < 1920 := by
            rcases mx_vk_dm hg (o := v2) (p := v3) s.1.1 s.1.2.1 s.1.2.2 h2 h3 with q | ⟨D, q1, q2, q3⟩
            · unfold mx_dm at q; have := s.1.1; omega
            · exact ⟨D, q1, q3, q2⟩
          have r0 := s.1.1
          have r1 : σ 9 e < 64 := by have := s.1.2.1; omega
          have D30 : σ 9 e = ((D / 30 : Nat) : Int) := by omega
          have Do : ((D % 30 / 6 : Nat) : Int) - 1 = v2 := by omega
          have Dp : ((D % 6 : Nat) : Int) - 1 = v3 := by omega
          obtain ⟨σ1, c, p1, p2⟩ := co_prepare_q (n := n) hI (d + 11) (σ 2 15)
          obtain ⟨σ2, s1, s2, s3, -⟩ := co_costOf_q (n := n) p2 (d + 11) D d2
          have K1 := mx_pp_k p2.1
          have K2 := mx_pp_k s2.1
          obtain ⟨f0, fk⟩ := mx_pq_f0 s2
          have dd2 := (mx_pp_dd s2.1).mpr d2
          have cD := (s2.2 D dd2).1
          obtain ⟨-, -, fw⟩ := fk D Dl (by rw [s3]; omega)
          have s2' := s2
          obtain ⟨⟨q1, q2, q3, q4, q5, q6, q7, q8⟩, hc⟩ := s2'
          obtain ⟨σ3, u1, u2⟩ := co_cheapestBy_s (n := n) (d + 13) D e (by rw [K2 2 (by decide)]; exact h1.2) q3 q5 dd2 f0 (by rw [q7]; exact fun w hw => (fw w hw).1)
          have c34 : σ3 34 = σ2 34 := funext fun j => u2 34 j (by simp) (by unfold mx_P37; simp)
          have F3 := mx_P37_38 u2
          have cf := mx_cf F3 q3 q5
          have lv3 : mx_Lv σ3 := by
            obtain ⟨c0, z1, z2⟩ := q6
            refine ⟨c0, fun x hx => by rw [cf.2.2.2.2, cf.2.2.1]; exact z1 x ((cf.2.2.2.1 x).mp hx), fun x hx hk => ?_⟩
            rw [c34] at hk
            obtain ⟨y1, y2, y3⟩ := z2 x hx hk
            refine ⟨(cf.2.2.2.1 x).mpr y1, by rw [c34]; exact y2, fun w hw => ?_⟩
            rw [cf.2.2.2.2, cf.2.2.1] at hw
            have := y3 w hw
            unfold mx_kn at this ⊢
            rw [c34]; exact this
          have P3 : mx_pp t σ σ3 (σ 2 15) := mx_pp_up s2.1 F3 lv3
          have hI3 := mx_pp_I0 hI P3
          have g3 := mx_I_gd hI3
          have K3 := mx_pp_k P3
          have al3 : σ3 82 4 = σ 2 15 := by rw [(mx_I_3 hI3).1, K3 2 (by decide)]
          have sol3 : mx_sol σ3 (σ 2 15) c := fun x hx => by rw [cf.2.2.1]; exact hc x ((cf.2.2.2.1 x).mp hx)
          have dd3 : mx_dd σ3 D := (mx_pp_dd P3).mpr d2
          obtain ⟨σ4, t1, t2, t3, t4, t5⟩ := mo_costs_q (n := n) g3 (mx_I_rl hI3) al3 sol3 (d + 6)
          have F5 : mx_Fq [] [(82, 35)] σ4 (am_wr σ4 82 35 0) := mx_fq_wr mx_fq_rf rfl
          have L5 : mx_LW (am_wr σ4 82 35 0) [] := ⟨by rw [mx_wr_at]; rfl, fun i w q => by cases q⟩
          have rW5 : mx_rW σ3 (am_wr σ4 82 35 0) := mx_rW_fr t3 (mx_fq_up F5 rfl)
          have al5 : (am_wr σ4 82 35 0) 82 4 = σ 2 15 := by rw [mx_wr_off (by decide), t2 82 4 (by decide) (by decide)]; exact al3
          have he3 : (e : Int) < σ3 2 3 := by rw [K3 2 (by decide)]; exact h1.2
          have hH3 : σ3 9 e ≠ -1 := by rw [K3 9 (by decide)]; exact hH
          obtain ⟨σ6, y1, y2, y3⟩ := mo_waysBy_s (n := n) g3 (d + 8) e he3 hH3 v2 v3 h2 h3 _ [] rW5 L5 (by decide)
          rw [al5, List.nil_append] at y3
          have c107 : σ6 107 = σ4 107 := funext fun j => by rw [y2 107 j (by decide) (by simp), mx_wr_ne (by decide)]
          have fl := mx_wl_f (μ := σ3) (al := σ 2 15) e D he3 (by rw [K3 9 (by decide)]; exact D30)
          rw [Do, Dp] at fl
          have inw : ∀ w ∈ mx_we σ3 (σ 2 15) v2 v3 e 0, w ∈ mx_wl σ3 (σ 2 15) D := fun w hw => by rw [← fl] at hw; exact (List.mem_filter.mp hw).1
          have okw : ∀ w ∈ mx_we σ3 (σ 2 15) v2 v3 e 0, mx_wok σ3 w := fun w hw => mx_wl_ok g3 dd3 (inw w hw)
          have wl6 : (mx_we σ3 (σ 2 15) v2 v3 e 0).length ≤ 386 := by
            have a := mx_we_len (σ 2 15) v2 v3 e σ3 0
            have b := mx_slots6 (g3.1.2.2.2.1 e he3).1
            omega
          have r := mo_costBy_65_s (n := n) (d + 18) _ wl6 y3 okw (by rw [c107]; exact t4) (mx_we σ3 (σ 2 15) v2 v3 e 0) [] 4000000000000 rfl
          have fr2 : mx_r2 (mx_mins (σ2 34) 1000000000001 (mx_we σ3 (σ 2 15) v2 v3 e 0)) (mx_fs (σ6 107) 4000000000000 (mx_we σ3 (σ 2 15) v2 v3 e 0)) := by
            refine mx_fold_r2 _ _ _ (Or.inr ⟨by decide, by decide⟩) fun w hw => ?_
            have ok := okw w hw
            have m := inw w hw
            rw [cf.2.2.1] at m
            have eq := fw w m
            have cin : ∀ v, mx_vk σ3 v → mx_in c v = mx_in (mx_cap (σ4 107)) v := fun v hv => by
              unfold mx_in
              rcases hv with q | ⟨j, j1, j2, j3⟩
              · rw [if_pos q, if_pos q]
              · have nv : ¬ v = -1 := by omega
                rw [if_neg nv, if_neg nv, j1, Int.toNat_natCast]
                exact (t5 j j3).symm
            refine mx_w_r2 (al := σ 2 15) ok (by rw [c107]; exact t4) ?_ ?_
            · rw [eq.2.1, c107]; exact cin _ ok.1
            · rw [eq.2.2, c107]; exact cin _ ok.2.1
          have F6 : mx_Fq mx_Cx mx_Px σ3 σ6 := mx_fq_tr (mx_fq_up t2 rfl) (mx_fq_tr (mx_fq_up F5 rfl) (mx_fq_up y2 rfl))
          have r1k : 0 ≤ σ 9 e ∧ σ 9 e < 1000 := ⟨r0, by omega⟩
          have g95 : σ3 95 e = 0 := by
            have := ((mx_I_R hI3).1 e he3).2.2.1
            rw [if_neg hH3] at this
            exact this
          rw [q7, ← cf.2.2.1, fl] at u1
          refine mx_C_of (if 1000000000000 < mx_mins (σ2 34) 1000000000001 (mx_we σ3 (σ 2 15) v2 v3 e 0) then -1 else mx_mins (σ2 34) 1000000000001 (mx_we σ3 (σ 2 15) v2 v3 e 0)) σ3 σ6 ?_ ?_ (mx_Inv_S (mx_Inv_cx hI3 F6))
          · rw [pm_costBy_e, me_isExpression_s, Option.bind_some]
            dsimp only
            rw [mx_bi_p h1, me_isGone_s _ _ _ _ E64, Option.bind_some, Int.toNat_natCast]
            dsimp only
            rw [mx_bi_n hH, pm_isOrder_s, Option.bind_some]
            dsimp only
            rw [mx_bi_p h2, pm_isPlace_s, Option.bind_some]
            dsimp only
            rw [mx_bi_p h3, ix_9 E64.1 E64.2, pm_demandOf_s _ _ _ _ _ _ r1k h2 h3, Option.bind_some, d1]
            dsimp only
            rw [show co_prepare (d + 19) (σ 2 15) σ n = _ from p1, Option.bind_some]
            dsimp only
            rw [show co_costOf (d + 19) D σ1 n = _ from s1, Option.bind_some]
            dsimp only
            rw [show co_cheapestBy (d + 19) e D σ2 n = _ from u1, Option.bind_some]
            dsimp only
            rw [pm_orNone_s, Option.bind_some]
          · have h23 : (-1 ≤ v2 ∧ v2 ≤ 3) ∧ -1 ≤ v3 ∧ v3 ≤ 4 := ⟨h2, h3⟩
            rw [mo_costBy_e, mo_isExpression_s, Option.bind_some, (mx_I_b hI3).2.2.1, K3 2 (by decide)]
            dsimp only
            rw [mx_bi_p h1, ix_95 E144.1 E144.2, Int.toNat_natCast, if_pos g95, mo_isDemand_s, Option.bind_some]
            dsimp only
            rw [mx_bi_p h23, show mo_costs (d + 19) σ3 n = _ from t1, Option.bind_some, mx_m]
            dsimp only
            rw [show mo_waysBy (d + 19) e v2 v3 (am_wr σ4 82 35 0) n = _ from y1, Option.bind_some]
            dsimp only
            rw [mx_r2_or fr2]
            exact r
        · have h23 : ¬ ((-1 ≤ v2 ∧ v2 ≤ 3) ∧ -1 ≤ v3 ∧ v3 ≤ 4) := fun q => h3 q.2
          refine mx_C_ref hI 6 (-16) ?_ ?_
          · rw [pm_costBy_e, me_isExpression_s, Option.bind_some]
            dsimp only
            rw [mx_bi_p h1, me_isGone_s _ _ _ _ E64, Option.bind_some, Int.toNat_natCast]
            dsimp only
            rw [mx_bi_n hH, pm_isOrder_s, Option.bind_some]
            dsimp only
            rw [mx_bi_p h2, pm_isPlace_s, Option.bind_some]
            dsimp only
            rw [mx_bi_n h3, pm_refuseFar_s _ _ _ _ (by decide), Option.bind_some]; rfl
          · rw [mo_costBy_e, mo_isExpression_s, Option.bind_some, e82]
            dsimp only
            rw [mx_bi_p h1, ix_95 E144.1 E144.2, Int.toNat_natCast, if_pos (gone0 _ (mx_rf_ne (by decide)) hH), mo_isDemand_s, Option.bind_some]
            dsimp only
            rw [mx_bi_n h23, mo_noTen_s _ _ _ _ (by decide), Option.bind_some]; rfl
      · have h23 : ¬ ((-1 ≤ v2 ∧ v2 ≤ 3) ∧ -1 ≤ v3 ∧ v3 ≤ 4) := fun q => h2 q.1
        refine mx_C_ref hI 6 (-16) ?_ ?_
        · rw [pm_costBy_e, me_isExpression_s, Option.bind_some]
          dsimp only
          rw [mx_bi_p h1, me_isGone_s _ _ _ _ E64, Option.bind_some, Int.toNat_natCast]
          dsimp only
          rw [mx_bi_n hH, pm_isOrder_s, Option.bind_some]
          dsimp only
          rw [mx_bi_n h2, pm_refuseFar_s _ _ _ _ (by decide), Option.bind_some]; rfl
        · rw [mo_costBy_e, mo_isExpression_s, Option.bind_some, e82]
          dsimp only
          rw [mx_bi_p h1, ix_95 E144.1 E144.2, Int.toNat_natCast, if_pos (gone0 _ (mx_rf_ne (by decide)) hH), mo_isDemand_s, Option.bind_some]
          dsimp only
          rw [mx_bi_n h23, mo_noTen_s _ _ _ _ (by decide), Option.bind_some]; rfl
  · refine mx_C_ref hI 1 (-11) ?_ ?_
    · rw [pm_costBy_e, me_isExpression_s, Option.bind_some]
      dsimp only
      rw [mx_bi_n h1, pm_refuseFar_s _ _ _ _ (by decide), Option.bind_some]; rfl
    · rw [mo_costBy_e, mo_isExpression_s, Option.bind_some, e82]
      dsimp only
      rw [mx_bi_n h1, mo_noTen_s _ _ _ _ (by decide), Option.bind_some]; rfl
end
