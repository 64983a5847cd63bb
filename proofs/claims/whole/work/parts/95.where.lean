section
variable {t n : Nat} {σ : am_M} {al : Int} {c : Nat → Int}
/-- ready, with the solution -/
def mx_pq (t : Nat) (σ σ1 : am_M) (al : Int) (c : Nat → Int) : Prop := mx_pp t σ σ1 al ∧ mx_sol σ1 al c
theorem mx_pp_k {σ1 : am_M} (h : mx_pp t σ σ1 al) : ∀ i, i < 29 → σ1 i = σ i := fun i q => funext fun j => h.1 i j (by simp only [List.mem_cons, List.not_mem_nil, or_false, not_or]; omega) (by unfold mx_PP mx_P38 mx_P37; simp only [List.mem_cons, List.not_mem_nil, or_false, Prod.mk.injEq]; omega)
theorem mx_pp_dd {σ1 : am_M} (h : mx_pp t σ σ1 al) {d : Nat} : mx_dd σ1 d ↔ mx_dd σ d := by
  unfold mx_dd
  rw [mx_pp_k h 2 (by decide), mx_pp_k h 10 (by decide)]
theorem co_prepare_q (hI : mx_Inv t n σ) (dp : Nat) (al : Int) : ∃ (σ' : am_M) (c : Nat → Int), co_prepare (dp + 8) al σ n = some (0, σ', n) ∧ mx_pq t σ σ' al c := by
  obtain ⟨σ1, p1, p2⟩ := co_prepare_s (n := n) hI dp al
  obtain ⟨c, hc⟩ := mx_sol_ex p2.2.2.1 p2.2.2.2.1 al
  exact ⟨σ1, c, p1, p2, hc⟩
theorem co_costOf_q {σ1 : am_M} (h : mx_pq t σ σ1 al c) (dp D : Nat) (hd : mx_dd σ D) : ∃ σ2 : am_M, co_costOf (dp + 8) D σ1 n = some (c D, σ2, n) ∧ mx_pq t σ σ2 al c ∧ σ2 34 D = c D ∧ ∀ x : Nat, x < 1920 → σ1 34 x ≠ -1 → σ2 34 x ≠ -1 := by
  obtain ⟨p, hc⟩ := h
  have p0 := p
  obtain ⟨q1, q2, q3, q4, q5, q6, q7, q8⟩ := p
  obtain ⟨σ2, s1, s2, s3, s4, s5⟩ := co_costOf_s (n := n) q3 q5 (c := c) (by rw [q7]; exact hc) q6 dp D ((mx_pp_dd p0).mpr hd)
  have F := mx_fq_up (C := [34, 35, 36]) (P := mx_P38) s2 rfl
  have cf := mx_cf F q3 q5
  exact ⟨σ2, s1, ⟨mx_pp_up p0 F s3, fun x hx => by rw [cf.2.2.1]; exact hc x ((cf.2.2.2.1 x).mp hx)⟩, s4, s5⟩
theorem mo_costs_q {μ τ : am_M} (hg : mx_gd μ) (h : mx_rl μ τ) (hal : τ 82 4 = al) (hc : mx_sol μ al c) (dp : Nat) : ∃ τ' : am_M, mo_costs (dp + 13) τ n = some (0, τ', n) ∧ mx_Fq mx_Ck [(82, 35)] τ τ' ∧ mx_rW μ τ' ∧ mx_cI μ al (τ' 107) ∧ ∀ D, mx_dd μ D → mx_cap (τ' 107) D = c D := by
  obtain ⟨τ', a1, a2, a3, a4, a5⟩ := mo_costs_s (n := n) hg h hal dp
  exact ⟨τ', a1, a2, a3, a4, fun D hD => mx_sol_eq hg a5 hc D hD⟩
/-- the best place -/
def mx_bp (c : Nat → Int) (b : Int) : Nat → Int → Int → Nat → Int
  | 0, is, _, _ => is
  | k + 1, is, v, p => if c (b + p + 1).toNat < v then mx_bp c b k p (c (b + p + 1).toNat) (p + 1) else mx_bp c b k is v (p + 1)
theorem mx_dmp (hg : mx_gd σ) {v1 v2 : Int} (h1 : 0 ≤ v1 ∧ v1 < σ 2 9) (h2 : -1 ≤ v2 ∧ v2 ≤ 3) (p : Nat) (hp : p < 5) : ∃ D : Nat, σ 10 v1.toNat * 30 + (v2 + 1) * 6 + (p : Int) + 1 = D ∧ mx_dd σ D ∧ (σ 10 v1.toNat * 30 + (v2 + 1) * 6 + (p : Int) + 1).toNat = D ∧ D < 1920 := by
  obtain ⟨D, d1, d2, -⟩ := mx_dmd hg h1 h2 (v3 := p) ⟨by omega, by omega⟩
  exact ⟨D, d1, d2, by omega, mx_dd_lt hg d2⟩
theorem pm_where_55_s (hg : mx_gd σ) (dp : Nat) {v1 v2 : Int} (h1 : 0 ≤ v1 ∧ v1 < σ 2 9) (h2 : -1 ≤ v2 ∧ v2 ≤ 3) : ∀ (k p : Nat) (is v : Int) (σ1 : am_M), p + k = 5 → mx_pq t σ σ1 al c →
    ∃ σ2 : am_M, pm_where_55 (dp + 19) v1 v2 is v p σ1 n = some (mx_bp c (σ 10 v1.toNat * 30 + (v2 + 1) * 6) k is v p, σ2, n) ∧ mx_pq t σ σ2 al c := by
  have h64 := hg.2.1
  have w2 := hg.1.2.1
  intro k
  induction k with
  | zero =>
    intro p is v σ1 hp h
    exact ⟨σ1, by rw [pm_where_55_e, if_pos (by omega)]; rfl, h⟩
  | succ k ih =>
    intro p is v σ1 hp h
    have K := mx_pp_k h.1
    obtain ⟨D, d1, d2, d3, d4⟩ := mx_dmp hg h1 h2 p (by omega)
    obtain ⟨-, -, -, r0⟩ := mx_dmd hg h1 h2 (v3 := p) ⟨by omega, by omega⟩
    obtain ⟨σ2, s1, s2, -⟩ := co_costOf_q (n := n) h (dp + 11) D d2
    have p4 : ¬ (4 < (p : Int)) := by omega
    have p1k : (p : Int) < 1000 := by omega
    have s29 : σ 2 9 ≤ 64 := by omega
    have rk : 0 ≤ σ 10 v1.toNat ∧ σ 10 v1.toNat < 1000 := ⟨r0.1, by omega⟩
    have pb : -1 ≤ (p : Int) ∧ (p : Int) ≤ 4 := ⟨by omega, by omega⟩
    rw [pm_where_55_e, if_neg p4, me_root_s _ _ _ _ (by rw [K 2 (by decide)]; exact s29), K 2 (by decide), if_pos h1, K 10 (by decide), Option.bind_some]
    dsimp only
    rw [pm_demandOf_s _ _ _ _ _ _ rk h2 pb, Option.bind_some, d1]
    dsimp only
    rw [show co_costOf (dp + 19) D σ1 n = _ from s1, Option.bind_some, mx_w_nat p1k]
    dsimp only
    have e : mx_bp c (σ 10 v1.toNat * 30 + (v2 + 1) * 6) (k + 1) is v p = if c (σ 10 v1.toNat * 30 + (v2 + 1) * 6 + (p : Int) + 1).toNat < v then mx_bp c (σ 10 v1.toNat * 30 + (v2 + 1) * 6) k p (c (σ 10 v1.toNat * 30 + (v2 + 1) * 6 + (p : Int) + 1).toNat) (p + 1) else mx_bp c (σ 10 v1.toNat * 30 + (v2 + 1) * 6) k is v (p + 1) := rfl
    rw [e, d3]
    by_cases z : c D < v
    · rw [if_pos (mx_cmpL.mpr z), if_pos z]
      exact ih (p + 1) p (c D) σ2 (by omega) s2
    · rw [if_neg (fun a => z (mx_cmpL.mp a)), if_neg z]
      exact ih (p + 1) is v σ2 (by omega) s2
theorem mo_where_45_s {μ τ : am_M} (hg : mx_gd μ) (h : mx_rl μ τ) (hc : ∀ D, mx_dd μ D → mx_cap (τ 107) D = c D) (dp : Nat) {v1 v2 : Int} (h1 : 0 ≤ v1 ∧ v1 < μ 2 9) (h2 : -1 ≤ v2 ∧ v2 ≤ 3) : ∀ (k p : Nat) (is v : Int), p + k = 5 → v ≤ 1000000000001 →
    mo_where_45 (dp + 1) v1 v2 is v p τ n = some (mx_bp c (μ 10 v1.toNat * 30 + (v2 + 1) * 6) k is v p, τ, n) := by
  have h64 := hg.2.1
  have w2 := hg.1.2.1
  intro k
  induction k with
  | zero =>
    intro p is v hp hv
    rw [mo_where_45_e, if_neg (by omega)]; rfl
  | succ k ih =>
    intro p is v hp hv
    obtain ⟨D, d1, d2, d3, d4⟩ := mx_dmp hg h1 h2 p (by omega)
    obtain ⟨-, -, -, r0⟩ := mx_dmd hg h1 h2 (v3 := p) ⟨by omega, by omega⟩
    have p4 : (p : Int) < 5 := by omega
    have p1k : (p : Int) < 1000 := by omega
    have rk : 0 ≤ μ 10 v1.toNat ∧ μ 10 v1.toNat < 1000 := ⟨r0.1, by omega⟩
    have pb : -1 ≤ (p : Int) ∧ (p : Int) ≤ 4 := ⟨by omega, by omega⟩
    have g144 : μ 2 9 ≤ 144 := by omega
    have I : (0 : Int) ≤ (D : Int) ∧ (D : Int) < 1920 := ⟨by omega, by omega⟩
    rw [mo_where_45_e, if_pos p4, mo_root_s dp τ n h.1.2.1 g144 v1 h1.1 h1.2, Option.bind_some]
    dsimp only
    rw [mo_demand_s _ _ _ _ _ _ rk h2 pb, Option.bind_some, d1, mx_w_nat p1k]
    dsimp only
    rw [ix_107 I.1 I.2, Int.toNat_natCast]
    have e : mx_bp c (μ 10 v1.toNat * 30 + (v2 + 1) * 6) (k + 1) is v p = if c (μ 10 v1.toNat * 30 + (v2 + 1) * 6 + (p : Int) + 1).toNat < v then mx_bp c (μ 10 v1.toNat * 30 + (v2 + 1) * 6) k p (c (μ 10 v1.toNat * 30 + (v2 + 1) * 6 + (p : Int) + 1).toNat) (p + 1) else mx_bp c (μ 10 v1.toNat * 30 + (v2 + 1) * 6) k is v (p + 1) := rfl
    have cd := hc D d2
    unfold mx_cap at cd
    rw [e, d3]
    by_cases z : τ 107 D < v
    · have eq : τ 107 D = c D := by rw [← cd, if_neg (by omega)]
      rw [if_pos (mx_cmpL.mpr z), eq, if_pos (by omega)]
      exact ih (p + 1) p (c D) (by omega) (by omega)
    · have nz : ¬ c D < v := by
        rw [← cd]
        split <;> omega
      rw [if_neg (fun a => z (mx_cmpL.mp a)), if_neg nz]
      exact ih (p + 1) is v (by omega) hv
/-- where() -/
theorem where_c (hI : mx_Inv t n σ) (d : Nat) (v1 v2 : Int) : mx_C t n σ (fun σ n => pm_where (d + 20) v1 v2 σ n) (fun σ n => mo_where (d + 20) v1 v2 σ n) := by
  have hb := mx_I_b hI
  have hg := mx_I_gd hI
  have e82 : ∀ k, (mx_rf σ k) 82 2 = σ 2 9 := fun k => by rw [mx_rf_ne (by decide)]; exact hb.2.2.2
  by_cases h1 : 0 ≤ v1 ∧ v1 < σ 2 9
  · by_cases h2 : -1 ≤ v2 ∧ v2 ≤ 3
    · obtain ⟨σ1, c, p1, p2⟩ := co_prepare_q (n := n) hI (d + 11) (σ 2 15)
      obtain ⟨σ2, s1, s2⟩ := pm_where_55_s (n := n) hg d h1 h2 5 0 (-1) 1000000000001 σ1 rfl p2
      have hI2 := mx_pp_I hI (mx_pp_S s2.1)
      have g2 := mx_I_gd hI2
      have K := mx_pp_k s2.1
      have al2 : σ2 82 4 = σ 2 15 := by rw [(mx_I_3 hI2).1, K 2 (by decide)]
      obtain ⟨σ3, t1, t2, t3, t4, t5⟩ := mo_costs_q (n := n) g2 (mx_I_rl hI2) al2 s2.2 (d + 6)
      have r := mo_where_45_s (n := n) g2 t3.1 t5 (d + 18) (v1 := v1) (v2 := v2) (by rw [K 2 (by decide)]; exact h1) h2 5 0 (-1) 1000000000001 rfl (Int.le_refl _)
      rw [K 10 (by decide)] at r
      refine mx_C_of (mx_bp c (σ 10 v1.toNat * 30 + (v2 + 1) * 6) 5 (-1) 1000000000001 0) σ2 σ3 ?_ ?_ (mx_Inv_cx hI2 (mx_fq_up t2 rfl))
      · rw [pm_where_e, me_isGroup_s, Option.bind_some]
        dsimp only
        rw [mx_bi_p h1, pm_isOrder_s, Option.bind_some]
        dsimp only
        rw [mx_bi_p h2, show co_prepare (d + 19) (σ 2 15) σ n = _ from p1, Option.bind_some]
        exact s1
      · rw [mo_where_e, mo_isGroup_s, Option.bind_some, (mx_I_b hI2).2.2.2, K 2 (by decide)]
        dsimp only
        rw [mx_bi_p h1, mo_isFrom_s, Option.bind_some]
        dsimp only
        rw [mx_bi_p h2, show mo_costs (d + 19) σ2 n = _ from t1, Option.bind_some]
        exact r
    · refine mx_C_ref hI 6 (-16) ?_ ?_
      · rw [pm_where_e, me_isGroup_s, Option.bind_some]
        dsimp only
        rw [mx_bi_p h1, pm_isOrder_s, Option.bind_some]
        dsimp only
        rw [mx_bi_n h2, pm_refuseFar_s _ _ _ _ (by decide), Option.bind_some]; rfl
      · rw [mo_where_e, mo_isGroup_s, Option.bind_some, e82]
        dsimp only
        rw [mx_bi_p h1, mo_isFrom_s, Option.bind_some]
        dsimp only
        rw [mx_bi_n h2, mo_noTen_s _ _ _ _ (by decide), Option.bind_some]; rfl
  · refine mx_C_ref hI 1 (-11) ?_ ?_
    · rw [pm_where_e, me_isGroup_s, Option.bind_some]
      dsimp only
      rw [mx_bi_n h1, pm_refuseFar_s _ _ _ _ (by decide), Option.bind_some]; rfl
    · rw [mo_where_e, mo_isGroup_s, Option.bind_some, e82]
      dsimp only
      rw [mx_bi_n h1, mo_noTen_s _ _ _ _ (by decide), Option.bind_some]; rfl
end
