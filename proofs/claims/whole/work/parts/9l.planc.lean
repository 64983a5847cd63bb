section
variable {t n : Nat} {σ μ : am_M} {al : Int} {c : Nat → Int}
theorem mx_wk_by (hg : mx_gd μ) {d : Nat} (hd : mx_dd μ d) {w : mx_wt} (h : w ∈ mx_wl μ al d) : mx_wk w.1 ∧ (w.1 < 10 → 0 ≤ mx_own μ d w ∧ mx_own μ d w < 8) ∧ (mx_hlf μ w = 0 ∨ mx_hlf μ w = 1) := by
  have hh : mx_hlf μ w = 0 ∨ mx_hlf μ w = 1 := by
    unfold mx_hlf
    split
    · exact Or.inl rfl
    · split
      · exact Or.inr rfl
      · exact Or.inl rfl
  rcases mx_wl_by hg hd h with ⟨-, q, -⟩ | ⟨e, e1, e2, -, q⟩
  · refine ⟨?_, fun a => by omega, hh⟩
    unfold mx_wk
    omega
  · have k : w.1 < 10 ∧ mx_wk w.1 := by
      unfold mx_wk
      omega
    refine ⟨k.2, fun _ => ?_, hh⟩
    have := (hg.1.2.2.2.1 e e2).2.1
    unfold mx_own
    rw [if_neg (by omega), if_neg (by omega), e1, Int.toNat_natCast]
    exact this
/-- the other plan stays -/
theorem mx_I7_mf (hI : mx_I7 σ) {p : Nat} (hp : σ 0 10 = p) {σ' : am_M} (h : mx_mf p σ σ') : mx_I7 σ' := by
  obtain ⟨q, hq1, hq2⟩ : ∃ q : Nat, σ 0 9 = q ∧ ((q = 58 ∧ p = 62) ∨ (q = 62 ∧ p = 58)) := ⟨(σ 0 9).toNat, by have := hI.1; omega, by have := hI.1; omega⟩
  have k : ∀ a, a ≠ 37 → (a < 58 ∨ 65 < a ∨ (q ≤ a ∧ a ≤ q + 2)) → σ' a = σ a := fun a y z => funext fun x => h a x (by omega) (by omega) (by omega) (by omega) (by unfold mx_P37; simp only [List.mem_cons, List.not_mem_nil, or_false, Prod.mk.injEq]; omega)
  unfold mx_I7 at hI ⊢
  rw [k 0 (by decide) (by omega), hq1, Int.toNat_natCast, k q (by omega) (by omega), k (q + 1) (by omega) (by omega), k (q + 2) (by omega) (by omega), k 82 (by omega) (by omega), k 115 (by omega) (by omega), k 116 (by omega) (by omega), k 117 (by omega) (by omega), k 118 (by omega) (by omega), k 119 (by omega) (by omega), k 120 (by omega) (by omega), k 121 (by omega) (by omega), k 122 (by omega) (by omega), k 124 (by omega) (by omega)]
  rw [hq1, Int.toNat_natCast] at hI
  exact hI
theorem mx_Inv_mf (hI : mx_Inv t n σ) {p : Nat} (hp : p = 58 ∨ p = 62) (hp' : σ 0 10 = p) {σ' : am_M} (h : mx_mf p σ σ') : mx_Inv t n σ' := by
  have F := mx_mf_58 hp h
  obtain ⟨i1, i2, i3, i4, i5, i6, i7, i8, i9, iA⟩ := hI
  exact ⟨mx_I1_fr F rfl i1, mx_I2_fr F rfl i2, mx_I3_fr F rfl i3, mx_I4_fr F rfl i4, mx_I5_fr F rfl i5, mx_I6_fr F rfl i6, mx_I7_mf i7 hp' h, mx_I8_fr F rfl i8, mx_I9_fr F (by decide +kernel) i9, mx_IA_fr F rfl iA⟩
/-- both plans, node by node -/
theorem mx_I7_of (hg : mx_gd μ) (hs : mx_sol μ al c) {D : Nat} (hd : mx_dd μ D) (hc : c D ≤ 1000000000000) (hl : (mx_nds μ al c D).length ≤ 120) {p q : Nat} (hpq : (p = 58 ∧ q = 62) ∨ (p = 62 ∧ q = 58)) {τ : am_M} (h9 : τ 0 9 = p) (h10 : τ 0 10 = q) (h3 : τ p 3 = ((mx_nds μ al c D).length : Nat)) (h8 : τ 82 8 = ((mx_nds μ al c D).length : Nat))
    (hc1 : ∀ i x, (mx_nds μ al c D)[i]? = some x → mx_fn μ τ c p i x ∧ τ (p + 1) (8 * i + 6) = ((mx_nds μ al c x.1).length : Nat))
    (hr1 : ∀ i x, (mx_nds μ al c D)[i]? = some x → τ 115 i = x.2.1 ∧ τ 116 i = mx_own μ x.1 x.2 ∧ τ 117 i = ((x.1 / 30 : Nat) : Int) ∧ τ 118 i = ((x.1 % 30 / 6 : Nat) : Int) - 1 ∧ τ 119 i = ((x.1 % 6 : Nat) : Int) - 1 ∧ τ 120 i = x.2.2.2.2.2.1 ∧ τ 121 i = ((mx_nds μ al c x.1).length : Nat) ∧ τ 122 i = mx_hlf μ x.2 ∧ τ 124 i = c x.1) : mx_I7 τ := by
  have np := mx_nds_np hg hs (c D).toNat D (by omega) hd hc
  have nd := mx_nd_nds hg hs (τ 115) (c D).toNat D 0 (by omega) hd hc (fun i x hx => by rw [Nat.zero_add]; exact (hr1 i x hx).1)
  rw [Nat.zero_add] at nd
  have nd0 : mx_nd (τ 115) 0 = 1 := rfl
  unfold mx_I7
  rw [h9, h10, Int.toNat_natCast, h3, h8]
  refine ⟨by omega, rfl, ⟨by omega, by omega⟩, fun i hi => ?_, fun _ => by rw [Int.toNat_natCast, nd.1, nd0]; rfl⟩
  obtain ⟨x, hx⟩ : ∃ x, (mx_nds μ al c D)[i]? = some x := ⟨(mx_nds μ al c D)[i]'(by omega), List.getElem?_eq_getElem (by omega)⟩
  obtain ⟨⟨a1, a2, a3, a4, a5, a6, a7, a8⟩, a9⟩ := hc1 i x hx
  obtain ⟨b1, b2, b3, b4, b5, b6, b7, b8, b9⟩ := hr1 i x hx
  obtain ⟨⟨g1, g2, g3⟩, -⟩ := np i x hx
  obtain ⟨wk, ow, hf⟩ := mx_wk_by hg g1 (List.mem_of_find?_eq_some g3)
  have n1 := nd.2 i (by omega)
  rw [Nat.zero_add, nd0] at n1
  rw [a1, a2, a3, a4, a5, a6, a7, a8, a9, b1, b2, b3, b4, b5, b6, b7, b8, b9]
  exact ⟨rfl, rfl, rfl, rfl, rfl, rfl, rfl, rfl, rfl, wk, ow, hf, n1⟩
/-- plan() -/
theorem plan_c (hI : mx_Inv t n σ) (d : Nat) (v1 v2 v3 : Int) : mx_C t n σ (fun σ n => pm_plan (d + 150) v1 v2 v3 σ n) (fun σ n => mo_plan (d + 150) v1 v2 v3 σ n) := by
  have hb := mx_I_b hI
  have hg := mx_I_gd hI
  have h64 := hg.2.1
  have w2 := hg.1.2.1
  have e82 : ∀ k, (mx_rf σ k) 82 2 = σ 2 9 := fun k => by rw [mx_rf_ne (by decide)]; exact hb.2.2.2
  by_cases h1 : 0 ≤ v1 ∧ v1 < σ 2 9
  · by_cases h23 : (-1 ≤ v2 ∧ v2 ≤ 3) ∧ -1 ≤ v3 ∧ v3 ≤ 4
    · obtain ⟨h2, h3⟩ := h23
      obtain ⟨D, d1, d2, r0⟩ := mx_dmd hg h1 h2 h3
      obtain ⟨σ1, c, p1, p2⟩ := co_prepare_q (n := n) hI (d + 141) (σ 2 15)
      obtain ⟨σ2, s1, s2, s3, -⟩ := co_costOf_q (n := n) p2 (d + 141) D d2
      have K1 := mx_pp_k p2.1
      have K2 := mx_pp_k s2.1
      have hI2 := mx_pp_I0 hI s2.1
      have g2 := mx_I_gd hI2
      have rl2 := mx_I_rl hI2
      have dd2 := (mx_pp_dd s2.1).mpr d2
      have al2 : σ2 82 4 = σ 2 15 := by rw [(mx_I_3 hI2).1, K2 2 (by decide)]
      have r1k : 0 ≤ σ 10 v1.toNat ∧ σ 10 v1.toNat < 1000 := ⟨r0.1, by omega⟩
      have b9 : σ 2 9 ≤ 64 := by omega
      have c1 := (s2.2 D dd2).1.1
      have i7 := mx_I_7 hI2
      obtain ⟨p, hp1, hp2⟩ : ∃ p : Nat, σ2 0 10 = p ∧ (p = 58 ∨ p = 62) := ⟨(σ2 0 10).toNat, by have := i7.1; omega, by have := i7.1; omega⟩
      obtain ⟨q, hq1, hq2⟩ : ∃ q : Nat, σ2 0 9 = q ∧ ((p = 58 ∧ q = 62) ∨ (p = 62 ∧ q = 58)) := ⟨(σ2 0 9).toNat, by have := i7.1; omega, by have := i7.1; omega⟩
      have p0 : ¬ (p : Int) < 0 := by omega
      -- the reference from any state that agrees
      have R : ∀ ρ : am_M, (∀ a x, 82 ≤ a → a ≠ 83 → ρ a x = σ2 a x) → _ := fun ρ hρ => mo_plan_r (n := n) (ρ := ρ) (μ := σ2) (al := σ 2 15) (c := c) g2 (mx_rl_fr rl2 (fun i j a b => hρ i j (by omega) (by omega)) (fun j _ => hρ 82 j (by decide) (by decide))) (by rw [hρ 82 4 (by decide) (by decide)]; exact al2) s2.2 d (v1 := v1) (v2 := v2) (v3 := v3) (by rw [K2 2 (by decide)]; exact h1) h2 h3 (D := D) (by rw [K2 10 (by decide)]; exact d1) dd2 (by rw [K2 2 (by decide), K2 10 (by decide)]; exact r0)
      have close : ∀ (σ' : am_M) (k : Nat) (τ : am_M), mx_Inv t n σ' → mx_Fq mx_Cx mx_Px (mx_rf σ' k) τ → mx_Inv (t + 1) n (mx_no τ k) := fun σ' k τ h1 h2 => mx_Inv_cx (mx_ref_I h1 k) (mx_no_fq h2 (by decide) (by simp))
      have go : pm_plan (d + 150) v1 v2 v3 σ n = if 1000000000000 < c D then some (-5, mx_rf σ2 5, n) else (pl_make (d + 149) p D σ2 n).bind fun q6 => if q6.1 = 0 then some (-7, mx_rf q6.2.1 7, q6.2.2) else am_m (am_wr q6.2.1 0 10 (q6.2.1 0 9)) fun σ1 => am_m (am_wr σ1 0 9 (q6.2.1 0 10)) fun σ2 => am_if (¬ σ2 0 9 < 0) (some (σ2 (σ2 0 9).toNat 3, σ2, q6.2.2)) := by
        rw [pm_plan_e, show pm_demandRefusal (d + 149) v1 v2 v3 σ n = _ from pm_demandRefusal_s (d + 145) v1 v2 v3 σ, if_pos h1, if_pos h2, if_pos h3, Option.bind_some, if_pos rfl]
        dsimp only
        rw [me_root_s _ _ _ _ b9, if_pos h1, Option.bind_some]
        dsimp only
        rw [pm_demandOf_s _ _ _ _ _ _ r1k h2 h3, Option.bind_some, d1]
        dsimp only
        rw [show co_prepare (d + 149) (σ 2 15) σ n = _ from p1, Option.bind_some]
        dsimp only
        rw [show co_costOf (d + 149) D σ1 n = _ from s1, Option.bind_some]
        dsimp only
        by_cases z : 1000000000000 < c D
        · rw [if_pos (mx_cmpG.mpr z), if_pos z, pm_refuse_s _ _ _ _ (by decide), Option.bind_some]; rfl
        · rw [if_neg (fun a => z (mx_cmpG.mp a)), if_neg z, mx_if_t (show ¬ σ2 0 10 < 0 by rw [hp1]; exact p0), hp1]
          congr 1
          funext q6
          split
          · rw [pm_refuse_s _ _ _ _ (by decide), Option.bind_some]; rfl
          · rfl
      by_cases z : 1000000000000 < c D
      · obtain ⟨τ, a1, a2⟩ := (R (mx_rf σ2 5) (fun a x q q' => by rw [mx_rf_ne (by omega)])).1 z
        exact mx_C_of (-5) (mx_rf σ2 5) (mx_no τ 5) (by rw [go, if_pos z]) a1 (close σ2 5 τ hI2 a2)
      · obtain ⟨σ3, b, m1, m2, m3⟩ := pl_make_s (n := n) s2 hp2 (d + 142) D dd2 (by rw [s3]; omega) (by omega)
        have hI3 := mx_Inv_mf hI2 hp2 hp1 m2
        have k3 : ∀ a, a ≠ 37 → a < 58 ∨ 65 < a → σ3 a = σ2 a := fun a y z => funext fun x => m2 a x (by omega) (by omega) (by omega) (by omega) (by unfold mx_P37; simp only [List.mem_cons, List.not_mem_nil, or_false, Prod.mk.injEq]; omega)
        rw [show pl_make (d + 142 + 7) p D σ2 n = pl_make (d + 149) p D σ2 n from rfl] at m1
        rw [m1, Option.bind_some] at go
        dsimp only at go
        rw [if_neg z] at go
        rcases m3 with ⟨q0, l1⟩ | ⟨q0, l1, l2, l3⟩
        · rw [if_pos q0] at go
          obtain ⟨τ, a1, a2⟩ := (R (mx_rf σ3 7) (fun a x q q' => by rw [mx_rf_ne (by omega), k3 a (by omega) (by omega)])).2.1 (by omega) l1
          exact mx_C_of (-7) (mx_rf σ3 7) (mx_no τ 7) go a1 (close σ3 7 τ hI3 a2)
        · obtain ⟨σ4, h4⟩ : ∃ σ4, σ4 = am_wr (am_wr σ3 0 10 q) 0 9 p := ⟨_, rfl⟩
          have e9 : σ4 0 9 = p := by rw [h4, mx_wr_at]
          have e10 : σ4 0 10 = q := by rw [h4, mx_wr_off (by decide), mx_wr_at]
          have k4 : ∀ a, a ≠ 0 → σ4 a = σ3 a := fun a y => by rw [h4, mx_wr_ne y, mx_wr_ne y]
          rw [if_neg (by omega), mx_m, mx_m, k3 0 (by decide) (by decide), hq1, hp1, ← h4, mx_if_t (show ¬ σ4 0 9 < 0 by rw [e9]; exact p0), e9, Int.toNat_natCast, k4 p (by omega), l2] at go
          obtain ⟨τ, a1, a2, a3, a4⟩ := (R σ4 (fun a x q q' => by rw [k4 a (by omega), k3 a (by omega) (by omega)])).2.2 (by omega) l1
          refine mx_C_of _ σ4 τ go a1 (mx_Inv_S ?_)
          have F4 : mx_Fq mx_C58 ((0, 9) :: (0, 10) :: mx_P37) σ2 σ4 := by
            rw [h4]
            exact mx_fq_wr (mx_fq_wr (mx_fq_up (mx_mf_58 hp2 m2) rfl) rfl) rfl
          have F : mx_Fq (mx_C58 ++ mx_C115 ++ mx_Cx) ((0, 9) :: (0, 10) :: (82, 8) :: mx_Px ++ mx_P37) σ2 τ := mx_fq_tr (mx_fq_up F4 rfl) (mx_fq_up a2 rfl)
          have kt : ∀ a, a < 82 → τ a = σ4 a := fun a q => funext fun x => a2 a x (by simp only [List.mem_append, List.mem_cons, List.not_mem_nil, or_false, not_or]; omega) (by simp only [List.mem_cons, List.not_mem_nil, or_false, Prod.mk.injEq]; omega)
          have I7 : mx_I7 τ := mx_I7_of g2 s2.2 dd2 (by omega) l1 (p := p) (q := q) (by omega) (by rw [kt 0 (by decide)]; exact e9) (by rw [kt 0 (by decide)]; exact e10) (by rw [kt p (by omega), k4 p (by omega)]; exact l2) a3 (fun i x hx => by
            have := l3 i x hx
            unfold mx_fn at this ⊢
            rw [kt (p + 1) (by omega), kt (p + 2) (by omega), k4 (p + 1) (by omega), k4 (p + 2) (by omega)]
            exact this) a4
          obtain ⟨i1, i2, i3, i4, i5, i6, -, i8, i9, iA⟩ := hI2
          exact ⟨mx_I1_fr F rfl i1, mx_I2_fr F rfl i2, mx_I3_fr F rfl i3, mx_I4_fr F rfl i4, mx_I5_fr F rfl i5, mx_I6_fr F rfl i6, I7, mx_I8_fr F rfl i8, mx_I9_fr F (by decide +kernel) i9, mx_IA_fr F rfl iA⟩
    · refine mx_C_ref hI 6 (-6) ?_ ?_
      · have r6 : (if -1 ≤ v2 ∧ v2 ≤ 3 then (if -1 ≤ v3 ∧ v3 ≤ 4 then (0 : Int) else 6) else 6) = 6 := by
          by_cases h2 : -1 ≤ v2 ∧ v2 ≤ 3
          · rw [if_pos h2, if_neg (fun h3 => h23 ⟨h2, h3⟩)]
          · rw [if_neg h2]
        rw [pm_plan_e, show pm_demandRefusal (d + 149) v1 v2 v3 σ n = _ from pm_demandRefusal_s (d + 145) v1 v2 v3 σ, if_pos h1, r6, Option.bind_some]
        dsimp only
        rw [if_neg (by decide), pm_refuse_s _ _ _ _ (by decide), Option.bind_some]; rfl
      · rw [mo_plan_e, mo_isGroup_s, Option.bind_some, e82]
        dsimp only
        rw [mx_bi_p h1, mo_isDemand_s, Option.bind_some]
        dsimp only
        rw [mx_bi_n h23, mo_no_s _ _ _ _ (by decide), Option.bind_some]; rfl
  · refine mx_C_ref hI 1 (-1) ?_ ?_
    · rw [pm_plan_e, show pm_demandRefusal (d + 149) v1 v2 v3 σ n = _ from pm_demandRefusal_s (d + 145) v1 v2 v3 σ, if_neg h1, Option.bind_some]
      dsimp only
      rw [if_neg (by decide), pm_refuse_s _ _ _ _ (by decide), Option.bind_some]; rfl
    · rw [mo_plan_e, mo_isGroup_s, Option.bind_some, e82]
      dsimp only
      rw [mx_bi_n h1, mo_no_s _ _ _ _ (by decide), Option.bind_some]; rfl
end
