/-! the class is ready to tell costs -/
abbrev mx_PC : List Nat := [30, 34, 35, 36, 38, 39, 40, 41, 42]
abbrev mx_PP : List (Nat × Nat) := (29, 4) :: (33, 6) :: (37, 5) :: mx_P38
section
variable {t n : Nat} {σ : am_M}
def mx_pp (t : Nat) (σ σ' : am_M) (al : Int) : Prop := mx_Fq mx_PC mx_PP σ σ' ∧ mx_IA t σ' ∧ mx_gd σ' ∧ mx_rl σ' σ' ∧ mx_Pv σ' ∧ mx_Lv σ' ∧ σ' 37 5 = al ∧ σ' 33 6 = σ' 2 17
theorem mx_pp_up {σ1 σ2 : am_M} {al : Int} (h : mx_pp t σ σ1 al) (F : mx_Fq [34, 35, 36] mx_P38 σ1 σ2) (hv : mx_Lv σ2) : mx_pp t σ σ2 al := by
  obtain ⟨h1, h2, h3, h4, h5, h6, h7, h8⟩ := h
  obtain ⟨g1, g2, g3, g4, g5⟩ := mx_cf F h3 h5
  have k : ∀ i, i < 33 → σ2 i = σ1 i := fun i q => funext fun j => F i j (by simp only [List.mem_cons, List.not_mem_nil, or_false, not_or]; omega) (by unfold mx_P38 mx_P37; simp only [List.mem_cons, List.not_mem_nil, or_false, Prod.mk.injEq]; omega)
  have k8 : ∀ i, 84 ≤ i → i ≤ 95 → σ2 i = σ1 i := fun i q _ => funext fun j => F i j (by simp only [List.mem_cons, List.not_mem_nil, or_false, not_or]; omega) (by unfold mx_P38 mx_P37; simp only [List.mem_cons, List.not_mem_nil, or_false, Prod.mk.injEq]; omega)
  have k82 : σ2 82 = σ1 82 := funext fun j => F 82 j (by decide) (by unfold mx_P38 mx_P37; simp)
  have k6 : σ2 33 6 = σ1 33 6 := F 33 6 (by decide) (by unfold mx_P38 mx_P37; decide)
  obtain ⟨a1, a2, a3, a4, a5, a6⟩ := h2
  have rv : mx_Rv σ1 → mx_Rv σ2 := fun q i hi => by rw [k 30 (by decide), mx_cR_fr F rfl]; exact q i hi
  have rl : mx_rl σ2 σ2 := by
    have := mx_rl_fr h4 (τ' := σ2) (fun i j a b => by rw [k8 i a b]) (fun j _ => by rw [k82])
    unfold mx_rl mx_Rs at this ⊢
    rw [k 2 (by decide), k 3 (by decide), k 4 (by decide), k 5 (by decide), k 6 (by decide), k 7 (by decide), k 8 (by decide), k 9 (by decide), k 10 (by decide)]
    exact this
  refine ⟨mx_fq_tr h1 (mx_fq_up F rfl), ?_, g1, rl, g2, hv, by rw [g5]; exact h7, by rw [k6, k 2 (by decide)]; exact h8⟩
  unfold mx_IA
  rw [k6, k 2 (by decide), k 29 (by decide)]
  exact ⟨a1, a2, a3, fun q => rv (a4 q), fun q => ⟨rv (a5 q).1, g2, hv⟩, a6⟩
/-- the rest of prepare() -/
theorem co_prepare_47_s (dp : Nat) (al : Int) {σ1 : am_M} (F : mx_Fq mx_PC mx_PP σ σ1) (hg : mx_gd σ1) (hr : mx_rl σ1 σ1) (hR : mx_Rv σ1) (hP : mx_Pv σ1) (h2 : 0 ≤ σ1 2 17 ∧ σ1 2 17 ≤ 2000 * t) (h4 : -1 ≤ σ1 29 4 ∧ σ1 29 4 ≤ σ1 2 17) (h6 : (σ1 29 2 = 31 ∧ σ1 29 3 = 32) ∨ (σ1 29 2 = 32 ∧ σ1 29 3 = 31)) :
    ∃ σ' : am_M, co_prepare_47 (dp + 1) al σ1 n = some (0, σ', n) ∧ mx_pp t σ σ' al := by
  obtain ⟨σ2, a1, a2, a3, a4⟩ := ar_fill2_s dp n 34 1920 (-1) σ1 (by decide) rfl (by decide)
  have F2 : mx_Fq [34] [] σ1 σ2 := mx_fq_of a2
  obtain ⟨σ3, h3⟩ : ∃ σ3, σ3 = am_wr (am_wr σ2 33 6 (σ2 2 17)) 37 5 al := ⟨_, rfl⟩
  have F3 : mx_Fq [34] [(33, 6), (37, 5)] σ1 σ3 := by rw [h3]; exact mx_fq_wr (mx_fq_wr (mx_fq_up F2 rfl) rfl) rfl
  have k : ∀ i, i < 33 ∨ (37 < i) → σ3 i = σ1 i := fun i q => funext fun j => F3 i j (by simp only [List.mem_cons, List.not_mem_nil, or_false]; omega) (by simp only [List.mem_cons, List.not_mem_nil, or_false, Prod.mk.injEq]; omega)
  have e375 : σ3 37 5 = al := by rw [h3, mx_wr_at]
  have e336 : σ3 33 6 = σ3 2 17 := by rw [k 2 (by decide), h3, mx_wr_ne (by decide), mx_wr_at, a2 2 (by decide)]
  have e34 : ∀ j : Nat, j < 1920 → σ3 34 j = -1 := fun j hj => by rw [h3, mx_wr_ne (by decide), mx_wr_ne (by decide)]; exact a3 j hj
  have eR := mx_cR_fr F3 rfl
  have p1 : ∀ e' i, mx_pe σ3 e' i = mx_pe σ1 e' i := fun x i => by unfold mx_pe; rw [eR, k 5 (by decide), k 7 (by decide), k 8 (by decide), k 9 (by decide)]
  have p2 : ∀ g i, mx_pg σ3 g i = mx_pg σ1 g i := fun x i => by unfold mx_pg; rw [eR]
  have g3 : mx_gd σ3 := mx_gd_fr hg (fun i j a b _ => by rw [k i (by omega)])
  have rl3 : mx_rl σ3 σ3 := by
    have := mx_rl_fr hr (τ' := σ3) (fun i j a b => by rw [k i (by omega)]) (fun j _ => by rw [k 82 (by decide)])
    unfold mx_rl mx_Rs at this ⊢
    rw [k 2 (by decide), k 3 (by decide), k 4 (by decide), k 5 (by decide), k 6 (by decide), k 7 (by decide), k 8 (by decide), k 9 (by decide), k 10 (by decide)]
    exact this
  have rv3 : mx_Rv σ3 := fun i hi => by rw [k 30 (by decide), eR]; exact hR i hi
  have pv3 : mx_Pv σ3 := by
    refine ⟨fun x hx hH i hi => ?_, fun g hg' hT => ?_⟩
    · rw [k 2 (by decide)] at hx
      rw [k 9 (by decide)] at hH
      rw [k 5 (by decide)] at hi
      rw [k 41 (by decide), p1]; exact hP.1 x hx hH i hi
    · rw [k 2 (by decide)] at hg'
      rw [k 10 (by decide)] at hT
      rw [k 42 (by decide), p2, p2]; exact hP.2 g hg' hT
  obtain ⟨c, hc⟩ := mx_sol_ex g3 rl3 al
  have lv3 : mx_Lv σ3 := ⟨c, by rw [e375]; exact hc, fun d hd q => absurd (e34 d hd) q⟩
  refine ⟨σ3, ?_, mx_fq_tr F (mx_fq_up F3 rfl), ?_, g3, rl3, pv3, lv3, e375, e336⟩
  · rw [co_prepare_47_e, show ar_fill2 (dp + 1) 34 (-1) σ1 n = _ from a1, Option.bind_some, mx_m, mx_m, h3]
  · unfold mx_IA
    rw [e336, k 2 (by decide), k 29 (by decide)]
    exact ⟨h2, h4, ⟨by omega, Int.le_refl _⟩, fun _ => rv3, fun _ => ⟨rv3, pv3, lv3⟩, h6⟩
/-- prepare() -/
theorem co_prepare_s (hI : mx_Inv t n σ) (dp : Nat) (al : Int) : ∃ σ' : am_M, co_prepare (dp + 8) al σ n = some (0, σ', n) ∧ mx_pp t σ σ' al := by
  have hA := mx_I_A hI
  have hg := mx_I_gd hI
  have hr := mx_I_rl hI
  obtain ⟨a1, a2, a3, a4, a5, a6⟩ := hA
  have hA := mx_I_A hI
  rw [co_prepare_e]
  by_cases z : σ 33 6 = σ 2 17
  · obtain ⟨r1, r2, r3⟩ := a5 z
    rw [if_pos z]
    by_cases y : σ 37 5 = al
    · rw [if_pos y]
      exact ⟨σ, rfl, mx_fq_rf, hA, hg, hr, r2, r3, y, z⟩
    · rw [if_neg y, if_pos z]
      exact co_prepare_47_s (dp + 6) al mx_fq_rf hg hr r1 r2 a1 a2 a6
  · rw [if_neg z, if_neg z]
    obtain ⟨σ1, b1, b2, b3, b4, b5⟩ := wa_reckonPrices_s (n := n) (mx_I_CI hI) hg a4 (dp + 1)
    have k : ∀ i, i < 29 ∨ (42 < i) → σ1 i = σ i := fun i q => funext fun j => b2 i j (by simp only [List.mem_cons, List.not_mem_nil, or_false]; omega) (by simp only [List.mem_cons, List.not_mem_nil, or_false, Prod.mk.injEq]; omega)
    have f : ∀ j, j ≠ 4 → σ1 29 j = σ 29 j := fun j q => b2 29 j (by decide) (by simp only [List.mem_cons, List.not_mem_nil, or_false, Prod.mk.injEq]; omega)
    have eR := mx_cR_fr b2 rfl
    have g1 : mx_gd σ1 := mx_gd_fr hg (fun i j a b _ => by rw [k i (by omega)])
    have rl1 : mx_rl σ1 σ1 := by
      have := mx_rl_fr hr (τ' := σ1) (fun i j a b => by rw [k i (by omega)]) (fun j _ => by rw [k 82 (by decide)])
      unfold mx_rl mx_Rs at this ⊢
      rw [k 2 (by decide), k 3 (by decide), k 4 (by decide), k 5 (by decide), k 6 (by decide), k 7 (by decide), k 8 (by decide), k 9 (by decide), k 10 (by decide)]
      exact this
    have rv1 : mx_Rv σ1 := fun i hi => by rw [eR]; exact b4 i hi
    obtain ⟨σ', e1, e2⟩ := co_prepare_47_s (n := n) (t := t) (dp + 6) al (mx_fq_up b2 rfl) g1 rl1 rv1 b5 (by rw [k 2 (by decide)]; exact a1) (by rw [k 2 (by decide), b3]; omega) (by rw [f 2 (by decide), f 3 (by decide)]; exact a6)
    refine ⟨σ', ?_, e2⟩
    rw [show wa_reckonPrices (dp + 7) σ n = _ from b1, Option.bind_some]
    exact e1
end
