section
variable {t n : Nat} {σ : am_M} {al : Int} {D : Nat}
theorem mx_Lv_fr {σ1 σ2 : am_M} (F : mx_Fq [35, 36] mx_P38 σ1 σ2) (hg : mx_gd σ1) (hP : mx_Pv σ1) (h : mx_Lv σ1) : mx_Lv σ2 := by
  have cf := mx_cf (mx_fq_up F rfl) hg hP
  have c34 : σ2 34 = σ1 34 := funext fun j => F 34 j (by decide) (by unfold mx_P38 mx_P37; simp)
  obtain ⟨c0, z1, z2⟩ := h
  refine ⟨c0, fun x hx => by rw [cf.2.2.2.2, cf.2.2.1]; exact z1 x ((cf.2.2.2.1 x).mp hx), fun x hx hk => ?_⟩
  rw [c34] at hk
  obtain ⟨y1, y2, y3⟩ := z2 x hx hk
  refine ⟨(cf.2.2.2.1 x).mpr y1, by rw [c34]; exact y2, fun w hw => ?_⟩
  rw [cf.2.2.2.2, cf.2.2.1] at hw
  have := y3 w hw
  unfold mx_kn at this ⊢
  rw [c34]; exact this
theorem pm_demandRefusal_s (d : Nat) (v1 v2 v3 : Int) (σ : am_M) : pm_demandRefusal (d + 4) v1 v2 v3 σ n = some (if 0 ≤ v1 ∧ v1 < σ 2 9 then (if -1 ≤ v2 ∧ v2 ≤ 3 then (if -1 ≤ v3 ∧ v3 ≤ 4 then 0 else 6) else 6) else 1, σ, n) := by
  rw [pm_demandRefusal_e, me_isGroup_s, Option.bind_some]
  dsimp only
  by_cases h1 : 0 ≤ v1 ∧ v1 < σ 2 9
  · rw [mx_bi_p h1, if_pos h1, pm_isOrder_s, Option.bind_some]
    dsimp only
    by_cases h2 : -1 ≤ v2 ∧ v2 ≤ 3
    · rw [mx_bi_p h2, if_pos h2, pm_isPlace_s, Option.bind_some]
      dsimp only
      by_cases h3 : -1 ≤ v3 ∧ v3 ≤ 4
      · rw [mx_bi_p h3, if_pos h3]
      · rw [mx_bi_n h3, if_neg h3]
    · rw [mx_bi_n h2, if_neg h2]
  · rw [mx_bi_n h1, if_neg h1]
/-- demandedBy(), once the class is ready -/
theorem co_demandedBy_q {σ1 : am_M} (h : mx_pp t σ σ1 al) (dp : Nat) (hdd : mx_dd σ D) : ∃ (σ2 : am_M) (N : Nat), co_demandedBy (dp + 6) D σ1 n = some ((N : Int), σ2, n) ∧ mx_Fq [35, 36] mx_P38 σ1 σ2 ∧ mx_pp t σ σ2 al ∧ mx_DU σ2 al D (σ2 36) N ∧ (∀ j : Nat, j < 1920 → mx_clq σ2 al (σ2 36) j) ∧
    (∀ k, k < N → ∃ x : Nat, σ2 35 k = x ∧ x < 1920 ∧ σ2 36 x = 1) ∧ (∀ x : Nat, x < 1920 → σ2 36 x = 1 → ∃ k, k < N ∧ σ2 35 k = x) := by
  have h0 := h
  obtain ⟨q1, q2, q3, q4, q5, q6, q7, q8⟩ := h
  obtain ⟨σ2, N, a1, a2, a3⟩ := co_demandedBy_s (n := n) q3 q5 dp ((mx_pp_dd h0).mpr hdd)
  have cf := mx_cf (mx_fq_up a2.1 rfl) q3 q5
  obtain ⟨l1, l2, l3, l4, l5, l6, l7, l8⟩ := a2
  rw [q7] at l7 l8
  refine ⟨σ2, N, a1, l1, mx_pp_up h0 (mx_fq_up l1 rfl) (mx_Lv_fr l1 q3 q5 q6), ⟨l3, l4, fun x hx hm => ?_, a3, fun T hc x hx hm => ?_⟩, fun j hj hm w hw => ?_, fun k hk => ?_, l6⟩
  · obtain ⟨k, k1, k2⟩ := l6 x hx hm
    obtain ⟨y, y1, y2, -⟩ := l5 k k1
    have : y = x := by omega
    subst this
    exact (cf.2.2.2.1 y).mpr y2
  · refine l8 T ⟨hc.1, fun d hd1 hd2 w hw => hc.2 d hd1 ((cf.2.2.2.1 d).mpr hd2) w (by rw [cf.2.2.1]; exact hw)⟩ x hx hm
  · obtain ⟨k, k1, k2⟩ := l6 j hj hm
    rw [cf.2.2.1] at hw
    exact l7 k k1 j k2 w hw
  · obtain ⟨y, y1, y2, y3⟩ := l5 k hk
    exact ⟨y, y1, mx_dd_lt q3 y2, y3⟩
/-- demands() -/
theorem demands_c (hI : mx_Inv t n σ) (d : Nat) (v1 v2 v3 : Int) : mx_C t n σ (fun σ n => pm_demands (d + 20) v1 v2 v3 σ n) (fun σ n => mo_demands (d + 20) v1 v2 v3 σ n) := by
  have hb := mx_I_b hI
  have hg := mx_I_gd hI
  have h64 := hg.2.1
  have w2 := hg.1.2.1
  have e82 : ∀ k, (mx_rf σ k) 82 2 = σ 2 9 := fun k => by rw [mx_rf_ne (by decide)]; exact hb.2.2.2
  by_cases h1 : 0 ≤ v1 ∧ v1 < σ 2 9
  · by_cases h23 : (-1 ≤ v2 ∧ v2 ≤ 3) ∧ -1 ≤ v3 ∧ v3 ≤ 4
    · obtain ⟨h2, h3⟩ := h23
      have h23 : (-1 ≤ v2 ∧ v2 ≤ 3) ∧ -1 ≤ v3 ∧ v3 ≤ 4 := ⟨h2, h3⟩
      obtain ⟨D, d1, d2, r0⟩ := mx_dmd hg h1 h2 h3
      have Dl := mx_dd_lt hg d2
      obtain ⟨σ1, p1, p2⟩ := co_prepare_s (n := n) hI (d + 11) (σ 2 15)
      have K1 := mx_pp_k p2
      obtain ⟨σ2, N, a1, a2, a3, a4, a5, -, -⟩ := co_demandedBy_q (n := n) p2 (d + 13) d2
      have hI2 := mx_pp_I0 hI a3
      have g2 := mx_I_gd hI2
      have K := mx_pp_k a3
      have al2 : σ2 82 4 = σ 2 15 := by rw [(mx_I_3 hI2).1, K 2 (by decide)]
      obtain ⟨σ3, t1, t2, t3⟩ := mo_tells_r (n := n) g2 (mx_I_rl hI2) (d + 17)
      have al3 : σ3 82 4 = σ 2 15 := by rw [t2 82 4 (by decide) (by decide)]; exact al2
      obtain ⟨σ4, N', b1, b2, b3, b4⟩ := mo_closes_s (n := n) g2 (d + 6) ((mx_pp_dd a3).mpr d2) t3 al3
      have eq := (mx_cls_eq a4 a5 b3 b4 g2 ((mx_pp_dd a3).mpr d2)).1
      have rt : mo_root (d + 19) v1 σ3 n = some (σ 10 v1.toNat, σ3, n) := by
        have := mo_root_s (d + 18) σ3 n t3.1.1.2.1 (by rw [K 2 (by decide)]; omega) v1 h1.1 (by rw [K 2 (by decide)]; exact h1.2)
        rw [K 10 (by decide)] at this
        exact this
      have r1k : 0 ≤ σ 10 v1.toNat ∧ σ 10 v1.toNat < 1000 := ⟨r0.1, by omega⟩
      have b9 : σ 2 9 ≤ 64 := by omega
      refine mx_C_of (N : Int) σ2 σ4 ?_ ?_ (mx_Inv_S (mx_Inv_cx hI2 (mx_fq_tr (mx_fq_up t2 rfl) (mx_fq_up b2 rfl))))
      · rw [pm_demands_e, pm_demandRefusal_s, if_pos h1, if_pos h2, if_pos h3, Option.bind_some, if_pos rfl]
        dsimp only
        rw [show co_prepare (d + 19) (σ 2 15) σ n = _ from p1, Option.bind_some]
        dsimp only
        rw [me_root_s _ _ _ _ (by rw [K1 2 (by decide)]; exact b9), K1 2 (by decide), if_pos h1, K1 10 (by decide), Option.bind_some]
        dsimp only
        rw [pm_demandOf_s _ _ _ _ _ _ r1k h2 h3, Option.bind_some, d1]
        dsimp only
        rw [show co_demandedBy (d + 19) D σ1 n = _ from a1, Option.bind_some]
      · rw [mo_demands_e, mo_isGroup_s, Option.bind_some, (mx_I_b hI2).2.2.2, K 2 (by decide)]
        dsimp only
        rw [mx_bi_p h1, mo_isDemand_s, Option.bind_some]
        dsimp only
        rw [mx_bi_p h23, show mo_tells (d + 19) σ2 n = _ from t1, Option.bind_some]
        dsimp only
        rw [rt, Option.bind_some]
        dsimp only
        rw [mo_demand_s _ _ _ _ _ _ r1k h2 h3, Option.bind_some, d1]
        dsimp only
        rw [show mo_closes (d + 19) D σ3 n = _ from b1, Option.bind_some, eq]
    · refine mx_C_ref hI 6 (-6) ?_ ?_
      · have r6 : (if -1 ≤ v2 ∧ v2 ≤ 3 then (if -1 ≤ v3 ∧ v3 ≤ 4 then (0 : Int) else 6) else 6) = 6 := by
          by_cases h2 : -1 ≤ v2 ∧ v2 ≤ 3
          · rw [if_pos h2, if_neg (fun h3 => h23 ⟨h2, h3⟩)]
          · rw [if_neg h2]
        rw [pm_demands_e, pm_demandRefusal_s, if_pos h1, r6, Option.bind_some]
        dsimp only
        rw [if_neg (by decide), pm_refuse_s _ _ _ _ (by decide), Option.bind_some]; rfl
      · rw [mo_demands_e, mo_isGroup_s, Option.bind_some, e82]
        dsimp only
        rw [mx_bi_p h1, mo_isDemand_s, Option.bind_some]
        dsimp only
        rw [mx_bi_n h23, mo_no_s _ _ _ _ (by decide), Option.bind_some]; rfl
  · refine mx_C_ref hI 1 (-1) ?_ ?_
    · rw [pm_demands_e, pm_demandRefusal_s, if_neg h1, Option.bind_some]
      dsimp only
      rw [if_neg (by decide), pm_refuse_s _ _ _ _ (by decide), Option.bind_some]; rfl
    · rw [mo_demands_e, mo_isGroup_s, Option.bind_some, e82]
      dsimp only
      rw [mx_bi_n h1, mo_no_s _ _ _ _ (by decide), Option.bind_some]; rfl
end
