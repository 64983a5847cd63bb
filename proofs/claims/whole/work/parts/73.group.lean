/-! what is told of a GROUP -/
theorem mx_lF_at {H : Nat → Int} {g : Nat} : ∀ (k e : Nat), e < k → H e = g → (∀ j, j < e → H j ≠ g) → mx_lF H k g = e := by
  intro k
  induction k with
  | zero => intro e h; omega
  | succ k ih =>
    intro e h1 h2 h3
    rw [mx_lF_S]
    by_cases q : e = k
    · subst q
      have : mx_lF H e g = -1 := by
        rcases Decidable.em (mx_lF H e g = -1) with z | z
        · exact z
        · obtain ⟨f, f1, f2⟩ := (mx_lF_iff e g).mp z
          exact absurd f2 (h3 f f1)
      rw [if_pos ⟨h2, this⟩]
    · rw [ih e (by omega) h2 h3, if_neg (by omega)]
theorem mx_Ls_nx {m : Int} {H : Nat → Int} {g : Nat} (hm : 0 ≤ m) (h : ∃ e : Nat, (e : Int) < m ∧ H e = g) : mx_Ls m H g = mx_nx m H g 0 := by
  rcases mx_nx_c (H := H) (g := g) (f := 0) hm with ⟨-, h2⟩ | ⟨e, h1, -, h3, h4, h5⟩
  · obtain ⟨e, he, hH⟩ := h
    exact absurd hH (h2 e (by omega) he)
  · rw [h1]
    exact mx_lF_at m.toNat e (by omega) h4 (fun j hj => h5 j (by omega) hj)
section
variable {t n : Nat} {σ : am_M}
theorem mx_IA_rf {τ : am_M} (hI : mx_IA t σ) (g : mx_Fq [30] [(29, 4)] σ τ) (h4 : τ 29 4 = σ 2 17) (h30 : ∀ i : Nat, i < 64 → τ 30 i = mx_cR σ i) : mx_IA t τ := by
  obtain ⟨i1, i2, i3, -, i5, i6⟩ := hI
  have eR : mx_cR τ = mx_cR σ := mx_cR_fr g rfl
  have eW : ∀ al d, mx_wl τ al d = mx_wl σ al d := fun al d => mx_wl_fr g rfl al d
  have rv : mx_Rv τ := fun i hi => by rw [eR]; exact h30 i hi
  have c : ∀ i, i ≠ 30 → i ≠ 29 → τ i = σ i := fun i a b => funext fun j => g i j (by simp only [List.mem_cons, List.not_mem_nil, or_false]; exact a) (by simp only [List.mem_cons, List.not_mem_nil, or_false, Prod.mk.injEq]; exact fun z => b z.1)
  have c29 : ∀ j, j ≠ 4 → τ 29 j = σ 29 j := fun j a => g 29 j (by decide) (by simp only [List.mem_cons, List.not_mem_nil, or_false, Prod.mk.injEq]; exact fun z => a z.2)
  refine ⟨by rw [c 2 (by decide) (by decide)]; exact i1, by rw [h4, c 2 (by decide) (by decide)]; omega, by rw [c 33 (by decide) (by decide), c 2 (by decide) (by decide)]; exact i3, fun _ => rv, fun q => ?_, by rw [c29 2 (by decide), c29 3 (by decide)]; exact i6⟩
  rw [c 33 (by decide) (by decide), c 2 (by decide) (by decide)] at q
  obtain ⟨-, r2, r3⟩ := i5 q
  refine ⟨rv, ⟨fun e he hH i hi => ?_, fun g hg hT => ?_⟩, ?_⟩
  · have p1 : mx_pe τ e i = mx_pe σ e i := by unfold mx_pe; rw [eR, c 5 (by decide) (by decide), c 7 (by decide) (by decide), c 8 (by decide) (by decide), c 9 (by decide) (by decide)]
    rw [c 41 (by decide) (by decide), p1]
    rw [c 2 (by decide) (by decide)] at he
    rw [c 9 (by decide) (by decide)] at hH
    rw [c 5 (by decide) (by decide)] at hi
    exact r2.1 e he hH i hi
  · have p2 : ∀ i, mx_pg τ g i = mx_pg σ g i := fun i => by unfold mx_pg; rw [eR]
    rw [c 42 (by decide) (by decide), p2, p2]
    rw [c 2 (by decide) (by decide)] at hg
    rw [c 10 (by decide) (by decide)] at hT
    exact r2.2 g hg hT
  · obtain ⟨cc, s1, s2⟩ := r3
    refine ⟨cc, by rw [c 37 (by decide) (by decide)]; exact mx_sol_fr g rfl s1, fun d hd2 hk => ?_⟩
    rw [c 34 (by decide) (by decide)] at hk ⊢
    obtain ⟨a1, a2, a3⟩ := s2 d hd2 hk
    refine ⟨by unfold mx_dd at a1 ⊢; rw [c 2 (by decide) (by decide), c 10 (by decide) (by decide)]; exact a1, a2, fun w hw => ?_⟩
    rw [c 37 (by decide) (by decide), eW] at hw
    have := a3 w hw
    unfold mx_kn at this ⊢
    rw [c 34 (by decide) (by decide)]
    exact this
theorem me_usersOf_4_s (d : Nat) (r : Int) (hg : σ 2 3 ≤ 64) : ∀ (k i : Nat) (z : Int), (i : Int) + k = σ 2 3 → 0 ≤ z ∧ z ≤ i → me_usersOf_4 d r z i σ n = some (mx_cn (fun j => decide (σ 7 j = r ∨ σ 8 j = r)) k i z, σ, n) := by
  intro k
  induction k with
  | zero => intro i z hi hz; rw [me_usersOf_4_e, if_neg (by omega)]; rfl
  | succ k ih =>
    intro i z hi hz
    have hn : am_w ((i : Int) + 1) = ((i + 1 : Nat) : Int) := by rw [mx_w_id (by omega) (by omega)]; rfl
    have hz1 : am_w (z + 1) = z + 1 := mx_w_id (by omega) (by omega)
    rw [me_usersOf_4_e, if_pos (by omega), ix_7 (by omega) (by omega), ix_8 (by omega) (by omega), Int.toNat_natCast, hn, hz1, ih (i + 1) (z + 1) (by omega) (by omega), ih (i + 1) z (by omega) (by omega)]
    show _ = some (mx_cn (fun j => decide (σ 7 j = r ∨ σ 8 j = r)) k (i + 1) (z + bif decide (σ 7 i = r ∨ σ 8 i = r) then 1 else 0), σ, n)
    by_cases q1 : σ 7 i = r
    · rw [if_pos q1, decide_eq_true (Or.inl q1)]; rfl
    · rw [if_neg q1]
      by_cases q2 : σ 8 i = r
      · rw [if_pos q2, decide_eq_true (Or.inr q2)]; rfl
      · rw [if_neg q2, decide_eq_false (by omega)]
        show _ = some (mx_cn _ k (i + 1) (z + 0), σ, n)
        rw [Int.add_zero]
theorem mo_group_77_s {τ : am_M} (hw : mx_gd σ) (hr : mx_rl σ τ) (d : Nat) (v2 r : Int) (hv : v2 = 0 ∨ v2 = 4) (h0 : 0 ≤ r) : ∀ (k i : Nat) (z : Int), (i : Int) + k = σ 2 3 → 0 ≤ z ∧ z ≤ i →
    mo_group_77 (d + 1) v2 r z i τ n = some (mx_cn (fun j => if v2 = 0 then decide (σ 9 j = r) else decide (σ 7 j = r ∨ σ 8 j = r)) k i z, τ, n) := by
  have h64 := hw.2.1
  have c82 : τ 82 1 = σ 2 3 := hr.1.2.2.1
  intro k
  induction k with
  | zero => intro i z hi hz; rw [mo_group_77_e, if_neg (by omega)]; rfl
  | succ k ih =>
    intro i z hi hz
    have hn : am_w ((i : Int) + 1) = ((i + 1 : Nat) : Int) := by rw [mx_w_id (by omega) (by omega)]; rfl
    have hz1 : am_w (z + 1) = z + 1 := mx_w_id (by omega) (by omega)
    have hz0 : am_w (z + 0) = z := by rw [Int.add_zero]; exact mx_w_id (by omega) (by omega)
    obtain ⟨a1, a2, a3, a4⟩ := hr.1.1 i (by omega)
    obtain ⟨k1, k2, k3, k4, k5, k6⟩ := hw.1.2.2.2.1 i (by omega)
    rw [mo_group_77_e, if_pos (by omega), ix_95 (by omega) (by omega), Int.toNat_natCast, a3]
    have fin : ∀ b : Bool, (if v2 = 0 then decide (σ 9 i = r) else decide (σ 7 i = r ∨ σ 8 i = r)) = b → mo_group_77 (d + 1) v2 r (z + bif b then 1 else 0) ((i + 1 : Nat) : Int) τ n = some (mx_cn (fun j => if v2 = 0 then decide (σ 9 j = r) else decide (σ 7 j = r ∨ σ 8 j = r)) (k + 1) i z, τ, n) := by
      intro b hb
      show _ = some (mx_cn (fun j => if v2 = 0 then decide (σ 9 j = r) else decide (σ 7 j = r ∨ σ 8 j = r)) k (i + 1) (z + bif (if v2 = 0 then decide (σ 9 i = r) else decide (σ 7 i = r ∨ σ 8 i = r)) then 1 else 0), τ, n)
      rw [hb]
      exact ih (i + 1) _ (by omega) (by cases b <;> simp <;> omega)
    by_cases hH : σ 9 i = -1
    · rw [if_pos hH, if_neg (by decide), hn]
      have := k5 hH
      have f := fin false (by
        rcases hv with q | q
        · rw [if_pos q, decide_eq_false (by omega)]
        · rw [if_neg (by omega), decide_eq_false (by omega)])
      rw [show (z + bif false then (1 : Int) else 0) = z from Int.add_zero z] at f
      exact f
    · rw [if_neg hH, if_pos rfl]
      obtain ⟨q1, q2, q3, q4, q5⟩ := a4 hH
      have l56 : ∀ s0 : Int, (s0 = 0 ∧ ¬ (σ 7 i = r ∨ σ 8 i = r)) ∨ (s0 = 1 ∧ (σ 7 i = r ∨ σ 8 i = r)) → mo_group_156 (d + 1) v2 r z i s0 τ n = some (mx_cn (fun j => if v2 = 0 then decide (σ 9 j = r) else decide (σ 7 j = r ∨ σ 8 j = r)) (k + 1) i z, τ, n) := by
        intro s0 hs
        rw [mo_group_156_e, hn, hz1, hz0]
        have fF := fin false
        have fT := fin true
        rw [show (z + bif false then (1 : Int) else 0) = z from Int.add_zero z] at fF
        rw [show (z + bif true then (1 : Int) else 0) = z + 1 from rfl] at fT
        rcases hv with q | q
        · rw [if_pos q, ix_93 (by omega) (by omega), Int.toNat_natCast, mo_root_r hr.1 d n _ q1.1 q1.2.1, Option.bind_some, q1.2.2]
          rw [if_pos q] at fF fT
          by_cases z : σ 9 i = r
          · rw [if_pos z]; exact fT (decide_eq_true z)
          · rw [if_neg z]; exact fF (decide_eq_false z)
        · rw [if_neg (by omega)]
          rw [if_neg (by omega)] at fF fT
          rcases hs with ⟨s1, s2⟩ | ⟨s1, s2⟩
          · rw [if_pos s1]; exact fF (decide_eq_false s2)
          · rw [if_neg (by omega)]; exact fT (decide_eq_true s2)
      have l25 : σ 7 i ≠ r → mo_group_125 (d + 1) v2 r z i τ n = some (mx_cn (fun j => if v2 = 0 then decide (σ 9 j = r) else decide (σ 7 j = r ∨ σ 8 j = r)) (k + 1) i z, τ, n) := by
        intro hx
        rw [mo_group_125_e, ix_89 (by omega) (by omega), Int.toNat_natCast, a1]
        by_cases z5 : σ 5 i < 5
        · rw [if_pos z5]
          exact l56 0 (Or.inl ⟨rfl, by have := q5 z5; omega⟩)
        · rw [if_neg z5, ix_92 (by omega) (by omega)]
          have y := q4 (by omega)
          rw [mo_root_r hr.1 d n _ y.1 y.2.1, Option.bind_some, y.2.2]
          by_cases z8 : σ 8 i = r
          · rw [if_pos z8]; exact l56 1 (Or.inr ⟨rfl, Or.inr z8⟩)
          · rw [if_neg z8]; exact l56 0 (Or.inl ⟨rfl, by omega⟩)
      rw [ix_89 (by omega) (by omega), a1]
      by_cases z1 : σ 5 i = 1
      · rw [if_pos z1]
        exact l25 (by have := q3 z1; omega)
      · rw [if_neg z1, ix_91 (by omega) (by omega)]
        have x := q2 z1
        rw [mo_root_r hr.1 d n _ x.1 x.2.1, Option.bind_some, x.2.2]
        by_cases z7 : σ 7 i = r
        · rw [if_pos z7]; exact l56 1 (Or.inr ⟨rfl, Or.inl z7⟩)
        · rw [if_neg z7]; exact l25 z7
theorem group_c (hI : mx_Inv t n σ) (d : Nat) (v1 v2 : Int) : mx_C t n σ (fun σ n => pm_group (d + 5) v1 v2 σ n) (fun σ n => mo_group (d + 5) v1 v2 σ n) := by
  have hb := mx_I_b hI
  have hg := mx_I_gd hI
  have e82 : ∀ k, (mx_rf σ k) 82 2 = σ 2 9 := fun k => by rw [mx_rf_ne (by decide)]; exact hb.2.2.2
  by_cases h1 : 0 ≤ v1 ∧ v1 < σ 2 9
  · have s2 := hg.1.2.2.1.2 v1.toNat (by omega)
    obtain ⟨r, hr⟩ : ∃ r : Nat, σ 10 v1.toNat = r := ⟨(σ 10 v1.toNat).toNat, by omega⟩
    rw [hr, Int.toNat_natCast] at s2
    have rr : (r : Int) < σ 2 9 ∧ σ 10 r = r := ⟨by omega, s2.2.2⟩
    -- the reference, behind tells()
    have ref : ∀ τ, mx_rl σ τ → (0 ≤ v2 ∧ v2 ≤ 4) → ∃ τ' : am_M, mx_Fr [103, 104, 105, 106] τ τ' ∧ mo_group (d + 5) v1 v2 τ n = some (if v2 = 1 then mx_cR σ r else if v2 = 2 then σ 11 r else if v2 = 3 then mx_Ls (σ 2 3) (σ 9) r else mx_cn (fun j => if v2 = 0 then decide (σ 9 j = r) else decide (σ 7 j = r ∨ σ 8 j = r)) (σ 2 3).toNat 0 0, τ', n) := by
      intro τ hrl h2
      obtain ⟨τ', p1, p2, p3⟩ := mo_tells_s hg.1 hrl.1 hrl.2 (d + 2) n
      have hrl' : mx_rl σ τ' := mx_rl_fr hrl (fun i j a b => congrFun (p2 i (by simp only [List.mem_cons, List.not_mem_nil, or_false, not_or]; omega)) j) (fun j _ => congrFun (p2 82 (by decide)) j)
      obtain ⟨p4, p5, p6⟩ := p3 r rr.1 rr.2
      refine ⟨τ', mx_fr_up p2 (by decide), ?_⟩
      have c82 : τ 82 2 = σ 2 9 := hrl.1.2.2.2.1
      have q1 := mo_root_r hrl'.1 (d + 3) n v1 h1.1 h1.2
      rw [hr] at q1
      rw [mo_group_e]; (try simp only [Int.toNat_natCast, mx_fin1]); simp (disch := first | assumption | omega | decide) only [↓if_pos, ↓if_neg, ↓mx_bi_p, ↓mx_bi_n, ↓mx_m, ↓mx_if_t, ↓mx_if_f1, ↓mx_bd (pm_isShelf_s ..), ↓mx_bd (mo_isShelf_s ..), ↓mx_bd (pm_isColumn_s ..), ↓mx_bd (mo_isFrom_s ..), ↓mx_bd (mo_isGroup_s ..), ↓mx_bd (mo_isExpression_s ..), ↓mx_bd (me_isTable_s ..), ↓mx_bd (me_isExpression_s ..), ↓mx_bd (me_isGroup_s ..), ↓mx_bd (pm_isPriced_s ..), ↓mx_bd (pm_isOrder_s ..), ↓mx_bd (pm_isPlace_s ..), ↓mx_bd (mo_isDemand_s ..), ↓mx_bd (pm_isAllowable_s ..), ↓mx_bd (mo_isWay_s ..), ↓mx_bd (pm_refuse_s ..), ↓mx_bd (pm_refuseFar_s ..), ↓mx_bd (mo_no_s ..), ↓mx_bd (mo_noTen_s ..), ↓ix_1, ↓ix_3, ↓ix_4, ↓ix_5, ↓ix_6, ↓ix_7, ↓ix_8, ↓ix_9, ↓ix_10, ↓ix_11, ↓ix_12, ↓ix_13, ↓ix_14, ↓ix_16, ↓ix_17, ↓ix_18, ↓ix_19, ↓ix_20, ↓ix_21, ↓ix_22, ↓ix_23, ↓ix_24, ↓ix_25, ↓ix_26, ↓ix_27, ↓ix_30, ↓ix_31, ↓ix_32, ↓ix_34, ↓ix_35, ↓ix_36, ↓ix_39, ↓ix_40, ↓ix_41, ↓ix_42, ↓ix_44, ↓ix_45, ↓ix_46, ↓ix_47, ↓ix_48, ↓ix_49, ↓ix_50, ↓ix_51, ↓ix_52, ↓ix_53, ↓ix_55, ↓ix_56, ↓ix_57, ↓ix_59, ↓ix_60, ↓ix_61, ↓ix_63, ↓ix_64, ↓ix_65, ↓ix_67, ↓ix_69, ↓ix_71, ↓ix_73, ↓ix_75, ↓ix_77, ↓ix_79, ↓ix_81, ↓ix_83, ↓ix_84, ↓ix_85, ↓ix_86, ↓ix_87, ↓ix_88, ↓ix_89, ↓ix_90, ↓ix_91, ↓ix_92, ↓ix_93, ↓ix_94, ↓ix_95, ↓ix_96, ↓ix_97, ↓ix_98, ↓ix_99, ↓ix_100, ↓ix_101, ↓ix_102, ↓ix_103, ↓ix_104, ↓ix_105, ↓ix_106, ↓ix_107, ↓ix_108, ↓ix_109, ↓ix_110, ↓ix_111, ↓ix_112, ↓ix_113, ↓ix_114, ↓ix_115, ↓ix_116, ↓ix_117, ↓ix_118, ↓ix_119, ↓ix_120, ↓ix_121, ↓ix_122, ↓ix_123, ↓ix_124, ↓ix_125, ↓ix_126, ↓ix_127, ↓ix_128, ↓ix_129, ↓ix_130, ↓ix_131, ↓ix_132, ↓ix_133, ↓ix_134, ↓ix_135, ↓ix_136, ↓ix_137, ↓ix_138, ↓ix_139, ↓ix_140, ↓ix_141, ↓ix_142, ↓ix_143, Option.bind_some, mx_wr_ne, mx_wr_at, mx_wr_off, mx_rf_ne, mx_no_ne, mx_if_t, Int.toNat_natCast, ix_1, ix_3, ix_4, ix_5, ix_6, ix_7, ix_8, ix_9, ix_10, ix_11, ix_12, ix_13, ix_14, ix_16, ix_17, ix_18, ix_19, ix_20, ix_21, ix_22, ix_23, ix_24, ix_25, ix_26, ix_27, ix_30, ix_31, ix_32, ix_34, ix_35, ix_36, ix_39, ix_40, ix_41, ix_42, ix_44, ix_45, ix_46, ix_47, ix_48, ix_49, ix_50, ix_51, ix_52, ix_53, ix_55, ix_56, ix_57, ix_59, ix_60, ix_61, ix_63, ix_64, ix_65, ix_67, ix_69, ix_71, ix_73, ix_75, ix_77, ix_79, ix_81, ix_83, ix_84, ix_85, ix_86, ix_87, ix_88, ix_89, ix_90, ix_91, ix_92, ix_93, ix_94, ix_95, ix_96, ix_97, ix_98, ix_99, ix_100, ix_101, ix_102, ix_103, ix_104, ix_105, ix_106, ix_107, ix_108, ix_109, ix_110, ix_111, ix_112, ix_113, ix_114, ix_115, ix_116, ix_117, ix_118, ix_119, ix_120, ix_121, ix_122, ix_123, ix_124, ix_125, ix_126, ix_127, ix_128, ix_129, ix_130, ix_131, ix_132, ix_133, ix_134, ix_135, ix_136, ix_137, ix_138, ix_139, ix_140, ix_141, ix_142, ix_143, c82, ↓mx_bd p1, ↓mx_bd q1]
      by_cases z1 : v2 = 1
      · rw [if_pos z1, if_pos z1, p4]; rfl
      rw [if_neg z1, if_neg z1]
      by_cases z2 : v2 = 2
      · rw [if_pos z2, if_pos z2, p5]
      rw [if_neg z2, if_neg z2]
      by_cases z3 : v2 = 3
      · rw [if_pos z3, if_pos z3, p6]
      rw [if_neg z3, if_neg z3]
      exact mo_group_77_s hg hrl' (d + 3) v2 r (by omega) (by omega) (σ 2 3).toNat 0 0 (by omega) (by omega)
    have mem : ∃ e : Nat, (e : Int) < σ 2 3 ∧ σ 9 e = r := hg.1.2.2.2.2.2.1 r rr.1 rr.2
    by_cases c0 : v2 = 0
    · subst c0
      obtain ⟨τ', p1, p2⟩ := ref σ (mx_I_rl hI) (by omega)
      refine mx_C_id2 hI (mx_cn (fun j => decide (σ 9 j = r)) (σ 2 3).toNat 0 0) ?_ ⟨τ', p1, p2⟩
      have := mx_members hg.2.2 r rr.1 (by omega)
      rw [pm_group_e]; (try simp only [Int.toNat_natCast, mx_fin1]); simp (disch := first | assumption | omega | decide) only [↓if_pos, ↓if_neg, ↓mx_bi_p, ↓mx_bi_n, ↓mx_m, ↓mx_if_t, ↓mx_if_f1, ↓mx_bd (pm_isShelf_s ..), ↓mx_bd (mo_isShelf_s ..), ↓mx_bd (pm_isColumn_s ..), ↓mx_bd (mo_isFrom_s ..), ↓mx_bd (mo_isGroup_s ..), ↓mx_bd (mo_isExpression_s ..), ↓mx_bd (me_isTable_s ..), ↓mx_bd (me_isExpression_s ..), ↓mx_bd (me_isGroup_s ..), ↓mx_bd (pm_isPriced_s ..), ↓mx_bd (pm_isOrder_s ..), ↓mx_bd (pm_isPlace_s ..), ↓mx_bd (mo_isDemand_s ..), ↓mx_bd (pm_isAllowable_s ..), ↓mx_bd (mo_isWay_s ..), ↓mx_bd (pm_refuse_s ..), ↓mx_bd (pm_refuseFar_s ..), ↓mx_bd (mo_no_s ..), ↓mx_bd (mo_noTen_s ..), ↓ix_1, ↓ix_3, ↓ix_4, ↓ix_5, ↓ix_6, ↓ix_7, ↓ix_8, ↓ix_9, ↓ix_10, ↓ix_11, ↓ix_12, ↓ix_13, ↓ix_14, ↓ix_16, ↓ix_17, ↓ix_18, ↓ix_19, ↓ix_20, ↓ix_21, ↓ix_22, ↓ix_23, ↓ix_24, ↓ix_25, ↓ix_26, ↓ix_27, ↓ix_30, ↓ix_31, ↓ix_32, ↓ix_34, ↓ix_35, ↓ix_36, ↓ix_39, ↓ix_40, ↓ix_41, ↓ix_42, ↓ix_44, ↓ix_45, ↓ix_46, ↓ix_47, ↓ix_48, ↓ix_49, ↓ix_50, ↓ix_51, ↓ix_52, ↓ix_53, ↓ix_55, ↓ix_56, ↓ix_57, ↓ix_59, ↓ix_60, ↓ix_61, ↓ix_63, ↓ix_64, ↓ix_65, ↓ix_67, ↓ix_69, ↓ix_71, ↓ix_73, ↓ix_75, ↓ix_77, ↓ix_79, ↓ix_81, ↓ix_83, ↓ix_84, ↓ix_85, ↓ix_86, ↓ix_87, ↓ix_88, ↓ix_89, ↓ix_90, ↓ix_91, ↓ix_92, ↓ix_93, ↓ix_94, ↓ix_95, ↓ix_96, ↓ix_97, ↓ix_98, ↓ix_99, ↓ix_100, ↓ix_101, ↓ix_102, ↓ix_103, ↓ix_104, ↓ix_105, ↓ix_106, ↓ix_107, ↓ix_108, ↓ix_109, ↓ix_110, ↓ix_111, ↓ix_112, ↓ix_113, ↓ix_114, ↓ix_115, ↓ix_116, ↓ix_117, ↓ix_118, ↓ix_119, ↓ix_120, ↓ix_121, ↓ix_122, ↓ix_123, ↓ix_124, ↓ix_125, ↓ix_126, ↓ix_127, ↓ix_128, ↓ix_129, ↓ix_130, ↓ix_131, ↓ix_132, ↓ix_133, ↓ix_134, ↓ix_135, ↓ix_136, ↓ix_137, ↓ix_138, ↓ix_139, ↓ix_140, ↓ix_141, ↓ix_142, ↓ix_143, Option.bind_some, mx_wr_ne, mx_wr_at, mx_wr_off, mx_rf_ne, mx_no_ne, mx_if_t, Int.toNat_natCast, ix_1, ix_3, ix_4, ix_5, ix_6, ix_7, ix_8, ix_9, ix_10, ix_11, ix_12, ix_13, ix_14, ix_16, ix_17, ix_18, ix_19, ix_20, ix_21, ix_22, ix_23, ix_24, ix_25, ix_26, ix_27, ix_30, ix_31, ix_32, ix_34, ix_35, ix_36, ix_39, ix_40, ix_41, ix_42, ix_44, ix_45, ix_46, ix_47, ix_48, ix_49, ix_50, ix_51, ix_52, ix_53, ix_55, ix_56, ix_57, ix_59, ix_60, ix_61, ix_63, ix_64, ix_65, ix_67, ix_69, ix_71, ix_73, ix_75, ix_77, ix_79, ix_81, ix_83, ix_84, ix_85, ix_86, ix_87, ix_88, ix_89, ix_90, ix_91, ix_92, ix_93, ix_94, ix_95, ix_96, ix_97, ix_98, ix_99, ix_100, ix_101, ix_102, ix_103, ix_104, ix_105, ix_106, ix_107, ix_108, ix_109, ix_110, ix_111, ix_112, ix_113, ix_114, ix_115, ix_116, ix_117, ix_118, ix_119, ix_120, ix_121, ix_122, ix_123, ix_124, ix_125, ix_126, ix_127, ix_128, ix_129, ix_130, ix_131, ix_132, ix_133, ix_134, ix_135, ix_136, ix_137, ix_138, ix_139, ix_140, ix_141, ix_142, ix_143, ↓mx_bd (me_root_s ..), hr, ↓mx_bd (lo_bitCount_s ..)]
      rw [this]
    by_cases c1 : v2 = 1
    · subst c1
      obtain ⟨σ1, a1, a2, a3, a4, a5⟩ := si_refresh_s d n (mx_I_CI hI) (mx_I_A hI).2.2.2.1
      have g : mx_Fq [30] [(29, 4)] σ σ1 := mx_fq_up (mx_fq_cell (c := 29) (C := [30]) (J := [4]) a2 (fun j hj => a3 j (by rintro rfl; exact absurd hj (by decide)))) rfl
      have hI1 : mx_Inv (t + 1) n σ1 := mx_Inv_by hI g (hA := Or.inr (mx_IA_S (mx_IA_rf (mx_I_A hI) g a4 a5)))
      obtain ⟨τ', p1, p2⟩ := ref σ1 (mx_rl_fr (mx_I_rl hI) (fun i j a b => g i j (by simp only [List.mem_cons, List.not_mem_nil, or_false]; omega) (by simp only [List.mem_cons, List.not_mem_nil, or_false, Prod.mk.injEq]; omega)) (fun j _ => g 82 j (by decide) (by simp))) (by omega)
      refine mx_C_of (mx_cR σ r) σ1 τ' ?_ p2 (mx_Inv_sc hI1 p1)
      have e9 : σ1 2 9 = σ 2 9 := g 2 9 (by decide) (by decide)
      have e5 := a5 r (by omega)
      have q := si_rowsOf_s (d + 2) n r σ1 (by omega)
      rw [e9, if_pos ⟨by omega, rr.1⟩, Int.toNat_natCast, e5] at q
      rw [pm_group_e]; (try simp only [Int.toNat_natCast, mx_fin1]); simp (disch := first | assumption | omega | decide) only [↓if_pos, ↓if_neg, ↓mx_bi_p, ↓mx_bi_n, ↓mx_m, ↓mx_if_t, ↓mx_if_f1, ↓mx_bd (pm_isShelf_s ..), ↓mx_bd (mo_isShelf_s ..), ↓mx_bd (pm_isColumn_s ..), ↓mx_bd (mo_isFrom_s ..), ↓mx_bd (mo_isGroup_s ..), ↓mx_bd (mo_isExpression_s ..), ↓mx_bd (me_isTable_s ..), ↓mx_bd (me_isExpression_s ..), ↓mx_bd (me_isGroup_s ..), ↓mx_bd (pm_isPriced_s ..), ↓mx_bd (pm_isOrder_s ..), ↓mx_bd (pm_isPlace_s ..), ↓mx_bd (mo_isDemand_s ..), ↓mx_bd (pm_isAllowable_s ..), ↓mx_bd (mo_isWay_s ..), ↓mx_bd (pm_refuse_s ..), ↓mx_bd (pm_refuseFar_s ..), ↓mx_bd (mo_no_s ..), ↓mx_bd (mo_noTen_s ..), ↓ix_1, ↓ix_3, ↓ix_4, ↓ix_5, ↓ix_6, ↓ix_7, ↓ix_8, ↓ix_9, ↓ix_10, ↓ix_11, ↓ix_12, ↓ix_13, ↓ix_14, ↓ix_16, ↓ix_17, ↓ix_18, ↓ix_19, ↓ix_20, ↓ix_21, ↓ix_22, ↓ix_23, ↓ix_24, ↓ix_25, ↓ix_26, ↓ix_27, ↓ix_30, ↓ix_31, ↓ix_32, ↓ix_34, ↓ix_35, ↓ix_36, ↓ix_39, ↓ix_40, ↓ix_41, ↓ix_42, ↓ix_44, ↓ix_45, ↓ix_46, ↓ix_47, ↓ix_48, ↓ix_49, ↓ix_50, ↓ix_51, ↓ix_52, ↓ix_53, ↓ix_55, ↓ix_56, ↓ix_57, ↓ix_59, ↓ix_60, ↓ix_61, ↓ix_63, ↓ix_64, ↓ix_65, ↓ix_67, ↓ix_69, ↓ix_71, ↓ix_73, ↓ix_75, ↓ix_77, ↓ix_79, ↓ix_81, ↓ix_83, ↓ix_84, ↓ix_85, ↓ix_86, ↓ix_87, ↓ix_88, ↓ix_89, ↓ix_90, ↓ix_91, ↓ix_92, ↓ix_93, ↓ix_94, ↓ix_95, ↓ix_96, ↓ix_97, ↓ix_98, ↓ix_99, ↓ix_100, ↓ix_101, ↓ix_102, ↓ix_103, ↓ix_104, ↓ix_105, ↓ix_106, ↓ix_107, ↓ix_108, ↓ix_109, ↓ix_110, ↓ix_111, ↓ix_112, ↓ix_113, ↓ix_114, ↓ix_115, ↓ix_116, ↓ix_117, ↓ix_118, ↓ix_119, ↓ix_120, ↓ix_121, ↓ix_122, ↓ix_123, ↓ix_124, ↓ix_125, ↓ix_126, ↓ix_127, ↓ix_128, ↓ix_129, ↓ix_130, ↓ix_131, ↓ix_132, ↓ix_133, ↓ix_134, ↓ix_135, ↓ix_136, ↓ix_137, ↓ix_138, ↓ix_139, ↓ix_140, ↓ix_141, ↓ix_142, ↓ix_143, Option.bind_some, mx_wr_ne, mx_wr_at, mx_wr_off, mx_rf_ne, mx_no_ne, mx_if_t, Int.toNat_natCast, ix_1, ix_3, ix_4, ix_5, ix_6, ix_7, ix_8, ix_9, ix_10, ix_11, ix_12, ix_13, ix_14, ix_16, ix_17, ix_18, ix_19, ix_20, ix_21, ix_22, ix_23, ix_24, ix_25, ix_26, ix_27, ix_30, ix_31, ix_32, ix_34, ix_35, ix_36, ix_39, ix_40, ix_41, ix_42, ix_44, ix_45, ix_46, ix_47, ix_48, ix_49, ix_50, ix_51, ix_52, ix_53, ix_55, ix_56, ix_57, ix_59, ix_60, ix_61, ix_63, ix_64, ix_65, ix_67, ix_69, ix_71, ix_73, ix_75, ix_77, ix_79, ix_81, ix_83, ix_84, ix_85, ix_86, ix_87, ix_88, ix_89, ix_90, ix_91, ix_92, ix_93, ix_94, ix_95, ix_96, ix_97, ix_98, ix_99, ix_100, ix_101, ix_102, ix_103, ix_104, ix_105, ix_106, ix_107, ix_108, ix_109, ix_110, ix_111, ix_112, ix_113, ix_114, ix_115, ix_116, ix_117, ix_118, ix_119, ix_120, ix_121, ix_122, ix_123, ix_124, ix_125, ix_126, ix_127, ix_128, ix_129, ix_130, ix_131, ix_132, ix_133, ix_134, ix_135, ix_136, ix_137, ix_138, ix_139, ix_140, ix_141, ix_142, ix_143, ↓mx_bd (me_root_s ..), hr, ↓mx_bd a1, ↓mx_bd q]
    by_cases c2 : v2 = 2
    · subst c2
      obtain ⟨τ', p1, p2⟩ := ref σ (mx_I_rl hI) (by omega)
      refine mx_C_id2 hI (σ 11 r) ?_ ⟨τ', p1, p2⟩
      rw [pm_group_e]; (try simp only [Int.toNat_natCast, mx_fin1]); simp (disch := first | assumption | omega | decide) only [↓if_pos, ↓if_neg, ↓mx_bi_p, ↓mx_bi_n, ↓mx_m, ↓mx_if_t, ↓mx_if_f1, ↓mx_bd (pm_isShelf_s ..), ↓mx_bd (mo_isShelf_s ..), ↓mx_bd (pm_isColumn_s ..), ↓mx_bd (mo_isFrom_s ..), ↓mx_bd (mo_isGroup_s ..), ↓mx_bd (mo_isExpression_s ..), ↓mx_bd (me_isTable_s ..), ↓mx_bd (me_isExpression_s ..), ↓mx_bd (me_isGroup_s ..), ↓mx_bd (pm_isPriced_s ..), ↓mx_bd (pm_isOrder_s ..), ↓mx_bd (pm_isPlace_s ..), ↓mx_bd (mo_isDemand_s ..), ↓mx_bd (pm_isAllowable_s ..), ↓mx_bd (mo_isWay_s ..), ↓mx_bd (pm_refuse_s ..), ↓mx_bd (pm_refuseFar_s ..), ↓mx_bd (mo_no_s ..), ↓mx_bd (mo_noTen_s ..), ↓ix_1, ↓ix_3, ↓ix_4, ↓ix_5, ↓ix_6, ↓ix_7, ↓ix_8, ↓ix_9, ↓ix_10, ↓ix_11, ↓ix_12, ↓ix_13, ↓ix_14, ↓ix_16, ↓ix_17, ↓ix_18, ↓ix_19, ↓ix_20, ↓ix_21, ↓ix_22, ↓ix_23, ↓ix_24, ↓ix_25, ↓ix_26, ↓ix_27, ↓ix_30, ↓ix_31, ↓ix_32, ↓ix_34, ↓ix_35, ↓ix_36, ↓ix_39, ↓ix_40, ↓ix_41, ↓ix_42, ↓ix_44, ↓ix_45, ↓ix_46, ↓ix_47, ↓ix_48, ↓ix_49, ↓ix_50, ↓ix_51, ↓ix_52, ↓ix_53, ↓ix_55, ↓ix_56, ↓ix_57, ↓ix_59, ↓ix_60, ↓ix_61, ↓ix_63, ↓ix_64, ↓ix_65, ↓ix_67, ↓ix_69, ↓ix_71, ↓ix_73, ↓ix_75, ↓ix_77, ↓ix_79, ↓ix_81, ↓ix_83, ↓ix_84, ↓ix_85, ↓ix_86, ↓ix_87, ↓ix_88, ↓ix_89, ↓ix_90, ↓ix_91, ↓ix_92, ↓ix_93, ↓ix_94, ↓ix_95, ↓ix_96, ↓ix_97, ↓ix_98, ↓ix_99, ↓ix_100, ↓ix_101, ↓ix_102, ↓ix_103, ↓ix_104, ↓ix_105, ↓ix_106, ↓ix_107, ↓ix_108, ↓ix_109, ↓ix_110, ↓ix_111, ↓ix_112, ↓ix_113, ↓ix_114, ↓ix_115, ↓ix_116, ↓ix_117, ↓ix_118, ↓ix_119, ↓ix_120, ↓ix_121, ↓ix_122, ↓ix_123, ↓ix_124, ↓ix_125, ↓ix_126, ↓ix_127, ↓ix_128, ↓ix_129, ↓ix_130, ↓ix_131, ↓ix_132, ↓ix_133, ↓ix_134, ↓ix_135, ↓ix_136, ↓ix_137, ↓ix_138, ↓ix_139, ↓ix_140, ↓ix_141, ↓ix_142, ↓ix_143, Option.bind_some, mx_wr_ne, mx_wr_at, mx_wr_off, mx_rf_ne, mx_no_ne, mx_if_t, Int.toNat_natCast, ix_1, ix_3, ix_4, ix_5, ix_6, ix_7, ix_8, ix_9, ix_10, ix_11, ix_12, ix_13, ix_14, ix_16, ix_17, ix_18, ix_19, ix_20, ix_21, ix_22, ix_23, ix_24, ix_25, ix_26, ix_27, ix_30, ix_31, ix_32, ix_34, ix_35, ix_36, ix_39, ix_40, ix_41, ix_42, ix_44, ix_45, ix_46, ix_47, ix_48, ix_49, ix_50, ix_51, ix_52, ix_53, ix_55, ix_56, ix_57, ix_59, ix_60, ix_61, ix_63, ix_64, ix_65, ix_67, ix_69, ix_71, ix_73, ix_75, ix_77, ix_79, ix_81, ix_83, ix_84, ix_85, ix_86, ix_87, ix_88, ix_89, ix_90, ix_91, ix_92, ix_93, ix_94, ix_95, ix_96, ix_97, ix_98, ix_99, ix_100, ix_101, ix_102, ix_103, ix_104, ix_105, ix_106, ix_107, ix_108, ix_109, ix_110, ix_111, ix_112, ix_113, ix_114, ix_115, ix_116, ix_117, ix_118, ix_119, ix_120, ix_121, ix_122, ix_123, ix_124, ix_125, ix_126, ix_127, ix_128, ix_129, ix_130, ix_131, ix_132, ix_133, ix_134, ix_135, ix_136, ix_137, ix_138, ix_139, ix_140, ix_141, ix_142, ix_143, ↓mx_bd (me_root_s ..), hr, ↓mx_bd (me_columnsOf_s ..)]
    by_cases c3 : v2 = 3
    · subst c3
      obtain ⟨τ', p1, p2⟩ := ref σ (mx_I_rl hI) (by omega)
      refine mx_C_id2 hI (mx_Ls (σ 2 3) (σ 9) r) ?_ ⟨τ', p1, p2⟩
      have q := me_memberFrom_s (d + 2) n r 0 hg.2.2 (by omega) rr.1 (by omega) (by omega)
      rw [mx_Ls_nx (by omega) mem]
      rw [pm_group_e]; (try simp only [Int.toNat_natCast, mx_fin1]); simp (disch := first | assumption | omega | decide) only [↓if_pos, ↓if_neg, ↓mx_bi_p, ↓mx_bi_n, ↓mx_m, ↓mx_if_t, ↓mx_if_f1, ↓mx_bd (pm_isShelf_s ..), ↓mx_bd (mo_isShelf_s ..), ↓mx_bd (pm_isColumn_s ..), ↓mx_bd (mo_isFrom_s ..), ↓mx_bd (mo_isGroup_s ..), ↓mx_bd (mo_isExpression_s ..), ↓mx_bd (me_isTable_s ..), ↓mx_bd (me_isExpression_s ..), ↓mx_bd (me_isGroup_s ..), ↓mx_bd (pm_isPriced_s ..), ↓mx_bd (pm_isOrder_s ..), ↓mx_bd (pm_isPlace_s ..), ↓mx_bd (mo_isDemand_s ..), ↓mx_bd (pm_isAllowable_s ..), ↓mx_bd (mo_isWay_s ..), ↓mx_bd (pm_refuse_s ..), ↓mx_bd (pm_refuseFar_s ..), ↓mx_bd (mo_no_s ..), ↓mx_bd (mo_noTen_s ..), ↓ix_1, ↓ix_3, ↓ix_4, ↓ix_5, ↓ix_6, ↓ix_7, ↓ix_8, ↓ix_9, ↓ix_10, ↓ix_11, ↓ix_12, ↓ix_13, ↓ix_14, ↓ix_16, ↓ix_17, ↓ix_18, ↓ix_19, ↓ix_20, ↓ix_21, ↓ix_22, ↓ix_23, ↓ix_24, ↓ix_25, ↓ix_26, ↓ix_27, ↓ix_30, ↓ix_31, ↓ix_32, ↓ix_34, ↓ix_35, ↓ix_36, ↓ix_39, ↓ix_40, ↓ix_41, ↓ix_42, ↓ix_44, ↓ix_45, ↓ix_46, ↓ix_47, ↓ix_48, ↓ix_49, ↓ix_50, ↓ix_51, ↓ix_52, ↓ix_53, ↓ix_55, ↓ix_56, ↓ix_57, ↓ix_59, ↓ix_60, ↓ix_61, ↓ix_63, ↓ix_64, ↓ix_65, ↓ix_67, ↓ix_69, ↓ix_71, ↓ix_73, ↓ix_75, ↓ix_77, ↓ix_79, ↓ix_81, ↓ix_83, ↓ix_84, ↓ix_85, ↓ix_86, ↓ix_87, ↓ix_88, ↓ix_89, ↓ix_90, ↓ix_91, ↓ix_92, ↓ix_93, ↓ix_94, ↓ix_95, ↓ix_96, ↓ix_97, ↓ix_98, ↓ix_99, ↓ix_100, ↓ix_101, ↓ix_102, ↓ix_103, ↓ix_104, ↓ix_105, ↓ix_106, ↓ix_107, ↓ix_108, ↓ix_109, ↓ix_110, ↓ix_111, ↓ix_112, ↓ix_113, ↓ix_114, ↓ix_115, ↓ix_116, ↓ix_117, ↓ix_118, ↓ix_119, ↓ix_120, ↓ix_121, ↓ix_122, ↓ix_123, ↓ix_124, ↓ix_125, ↓ix_126, ↓ix_127, ↓ix_128, ↓ix_129, ↓ix_130, ↓ix_131, ↓ix_132, ↓ix_133, ↓ix_134, ↓ix_135, ↓ix_136, ↓ix_137, ↓ix_138, ↓ix_139, ↓ix_140, ↓ix_141, ↓ix_142, ↓ix_143, Option.bind_some, mx_wr_ne, mx_wr_at, mx_wr_off, mx_rf_ne, mx_no_ne, mx_if_t, Int.toNat_natCast, ix_1, ix_3, ix_4, ix_5, ix_6, ix_7, ix_8, ix_9, ix_10, ix_11, ix_12, ix_13, ix_14, ix_16, ix_17, ix_18, ix_19, ix_20, ix_21, ix_22, ix_23, ix_24, ix_25, ix_26, ix_27, ix_30, ix_31, ix_32, ix_34, ix_35, ix_36, ix_39, ix_40, ix_41, ix_42, ix_44, ix_45, ix_46, ix_47, ix_48, ix_49, ix_50, ix_51, ix_52, ix_53, ix_55, ix_56, ix_57, ix_59, ix_60, ix_61, ix_63, ix_64, ix_65, ix_67, ix_69, ix_71, ix_73, ix_75, ix_77, ix_79, ix_81, ix_83, ix_84, ix_85, ix_86, ix_87, ix_88, ix_89, ix_90, ix_91, ix_92, ix_93, ix_94, ix_95, ix_96, ix_97, ix_98, ix_99, ix_100, ix_101, ix_102, ix_103, ix_104, ix_105, ix_106, ix_107, ix_108, ix_109, ix_110, ix_111, ix_112, ix_113, ix_114, ix_115, ix_116, ix_117, ix_118, ix_119, ix_120, ix_121, ix_122, ix_123, ix_124, ix_125, ix_126, ix_127, ix_128, ix_129, ix_130, ix_131, ix_132, ix_133, ix_134, ix_135, ix_136, ix_137, ix_138, ix_139, ix_140, ix_141, ix_142, ix_143, ↓mx_bd (me_root_s ..), hr]
      rw [show me_memberFrom (d + 4) r 0 σ n = _ from q]; rfl
    by_cases c4 : v2 = 4
    · subst c4
      obtain ⟨τ', p1, p2⟩ := ref σ (mx_I_rl hI) (by omega)
      refine mx_C_id2 hI (mx_cn (fun j => decide (σ 7 j = r ∨ σ 8 j = r)) (σ 2 3).toNat 0 0) ?_ ⟨τ', p1, p2⟩
      have q := me_usersOf_4_s (n := n) (d + 3) (r : Int) hg.2.1 (σ 2 3).toNat 0 0 (by omega) (by omega)
      rw [pm_group_e]; (try simp only [Int.toNat_natCast, mx_fin1]); simp (disch := first | assumption | omega | decide) only [↓if_pos, ↓if_neg, ↓mx_bi_p, ↓mx_bi_n, ↓mx_m, ↓mx_if_t, ↓mx_if_f1, ↓mx_bd (pm_isShelf_s ..), ↓mx_bd (mo_isShelf_s ..), ↓mx_bd (pm_isColumn_s ..), ↓mx_bd (mo_isFrom_s ..), ↓mx_bd (mo_isGroup_s ..), ↓mx_bd (mo_isExpression_s ..), ↓mx_bd (me_isTable_s ..), ↓mx_bd (me_isExpression_s ..), ↓mx_bd (me_isGroup_s ..), ↓mx_bd (pm_isPriced_s ..), ↓mx_bd (pm_isOrder_s ..), ↓mx_bd (pm_isPlace_s ..), ↓mx_bd (mo_isDemand_s ..), ↓mx_bd (pm_isAllowable_s ..), ↓mx_bd (mo_isWay_s ..), ↓mx_bd (pm_refuse_s ..), ↓mx_bd (pm_refuseFar_s ..), ↓mx_bd (mo_no_s ..), ↓mx_bd (mo_noTen_s ..), ↓ix_1, ↓ix_3, ↓ix_4, ↓ix_5, ↓ix_6, ↓ix_7, ↓ix_8, ↓ix_9, ↓ix_10, ↓ix_11, ↓ix_12, ↓ix_13, ↓ix_14, ↓ix_16, ↓ix_17, ↓ix_18, ↓ix_19, ↓ix_20, ↓ix_21, ↓ix_22, ↓ix_23, ↓ix_24, ↓ix_25, ↓ix_26, ↓ix_27, ↓ix_30, ↓ix_31, ↓ix_32, ↓ix_34, ↓ix_35, ↓ix_36, ↓ix_39, ↓ix_40, ↓ix_41, ↓ix_42, ↓ix_44, ↓ix_45, ↓ix_46, ↓ix_47, ↓ix_48, ↓ix_49, ↓ix_50, ↓ix_51, ↓ix_52, ↓ix_53, ↓ix_55, ↓ix_56, ↓ix_57, ↓ix_59, ↓ix_60, ↓ix_61, ↓ix_63, ↓ix_64, ↓ix_65, ↓ix_67, ↓ix_69, ↓ix_71, ↓ix_73, ↓ix_75, ↓ix_77, ↓ix_79, ↓ix_81, ↓ix_83, ↓ix_84, ↓ix_85, ↓ix_86, ↓ix_87, ↓ix_88, ↓ix_89, ↓ix_90, ↓ix_91, ↓ix_92, ↓ix_93, ↓ix_94, ↓ix_95, ↓ix_96, ↓ix_97, ↓ix_98, ↓ix_99, ↓ix_100, ↓ix_101, ↓ix_102, ↓ix_103, ↓ix_104, ↓ix_105, ↓ix_106, ↓ix_107, ↓ix_108, ↓ix_109, ↓ix_110, ↓ix_111, ↓ix_112, ↓ix_113, ↓ix_114, ↓ix_115, ↓ix_116, ↓ix_117, ↓ix_118, ↓ix_119, ↓ix_120, ↓ix_121, ↓ix_122, ↓ix_123, ↓ix_124, ↓ix_125, ↓ix_126, ↓ix_127, ↓ix_128, ↓ix_129, ↓ix_130, ↓ix_131, ↓ix_132, ↓ix_133, ↓ix_134, ↓ix_135, ↓ix_136, ↓ix_137, ↓ix_138, ↓ix_139, ↓ix_140, ↓ix_141, ↓ix_142, ↓ix_143, Option.bind_some, mx_wr_ne, mx_wr_at, mx_wr_off, mx_rf_ne, mx_no_ne, mx_if_t, Int.toNat_natCast, ix_1, ix_3, ix_4, ix_5, ix_6, ix_7, ix_8, ix_9, ix_10, ix_11, ix_12, ix_13, ix_14, ix_16, ix_17, ix_18, ix_19, ix_20, ix_21, ix_22, ix_23, ix_24, ix_25, ix_26, ix_27, ix_30, ix_31, ix_32, ix_34, ix_35, ix_36, ix_39, ix_40, ix_41, ix_42, ix_44, ix_45, ix_46, ix_47, ix_48, ix_49, ix_50, ix_51, ix_52, ix_53, ix_55, ix_56, ix_57, ix_59, ix_60, ix_61, ix_63, ix_64, ix_65, ix_67, ix_69, ix_71, ix_73, ix_75, ix_77, ix_79, ix_81, ix_83, ix_84, ix_85, ix_86, ix_87, ix_88, ix_89, ix_90, ix_91, ix_92, ix_93, ix_94, ix_95, ix_96, ix_97, ix_98, ix_99, ix_100, ix_101, ix_102, ix_103, ix_104, ix_105, ix_106, ix_107, ix_108, ix_109, ix_110, ix_111, ix_112, ix_113, ix_114, ix_115, ix_116, ix_117, ix_118, ix_119, ix_120, ix_121, ix_122, ix_123, ix_124, ix_125, ix_126, ix_127, ix_128, ix_129, ix_130, ix_131, ix_132, ix_133, ix_134, ix_135, ix_136, ix_137, ix_138, ix_139, ix_140, ix_141, ix_142, ix_143, ↓mx_bd (me_root_s ..), hr, me_usersOf_e]
      rw [show me_usersOf_4 (d + 3) r 0 0 σ n = _ from q]; rfl
    · refine mx_C_ref hI 5 (-5) ?_ ?_
      · rw [pm_group_e]; (try simp only [Int.toNat_natCast, mx_fin1]); simp (disch := first | assumption | omega | decide) only [↓if_pos, ↓if_neg, ↓mx_bi_p, ↓mx_bi_n, ↓mx_m, ↓mx_if_t, ↓mx_if_f1, ↓mx_bd (pm_isShelf_s ..), ↓mx_bd (mo_isShelf_s ..), ↓mx_bd (pm_isColumn_s ..), ↓mx_bd (mo_isFrom_s ..), ↓mx_bd (mo_isGroup_s ..), ↓mx_bd (mo_isExpression_s ..), ↓mx_bd (me_isTable_s ..), ↓mx_bd (me_isExpression_s ..), ↓mx_bd (me_isGroup_s ..), ↓mx_bd (pm_isPriced_s ..), ↓mx_bd (pm_isOrder_s ..), ↓mx_bd (pm_isPlace_s ..), ↓mx_bd (mo_isDemand_s ..), ↓mx_bd (pm_isAllowable_s ..), ↓mx_bd (mo_isWay_s ..), ↓mx_bd (pm_refuse_s ..), ↓mx_bd (pm_refuseFar_s ..), ↓mx_bd (mo_no_s ..), ↓mx_bd (mo_noTen_s ..), ↓ix_1, ↓ix_3, ↓ix_4, ↓ix_5, ↓ix_6, ↓ix_7, ↓ix_8, ↓ix_9, ↓ix_10, ↓ix_11, ↓ix_12, ↓ix_13, ↓ix_14, ↓ix_16, ↓ix_17, ↓ix_18, ↓ix_19, ↓ix_20, ↓ix_21, ↓ix_22, ↓ix_23, ↓ix_24, ↓ix_25, ↓ix_26, ↓ix_27, ↓ix_30, ↓ix_31, ↓ix_32, ↓ix_34, ↓ix_35, ↓ix_36, ↓ix_39, ↓ix_40, ↓ix_41, ↓ix_42, ↓ix_44, ↓ix_45, ↓ix_46, ↓ix_47, ↓ix_48, ↓ix_49, ↓ix_50, ↓ix_51, ↓ix_52, ↓ix_53, ↓ix_55, ↓ix_56, ↓ix_57, ↓ix_59, ↓ix_60, ↓ix_61, ↓ix_63, ↓ix_64, ↓ix_65, ↓ix_67, ↓ix_69, ↓ix_71, ↓ix_73, ↓ix_75, ↓ix_77, ↓ix_79, ↓ix_81, ↓ix_83, ↓ix_84, ↓ix_85, ↓ix_86, ↓ix_87, ↓ix_88, ↓ix_89, ↓ix_90, ↓ix_91, ↓ix_92, ↓ix_93, ↓ix_94, ↓ix_95, ↓ix_96, ↓ix_97, ↓ix_98, ↓ix_99, ↓ix_100, ↓ix_101, ↓ix_102, ↓ix_103, ↓ix_104, ↓ix_105, ↓ix_106, ↓ix_107, ↓ix_108, ↓ix_109, ↓ix_110, ↓ix_111, ↓ix_112, ↓ix_113, ↓ix_114, ↓ix_115, ↓ix_116, ↓ix_117, ↓ix_118, ↓ix_119, ↓ix_120, ↓ix_121, ↓ix_122, ↓ix_123, ↓ix_124, ↓ix_125, ↓ix_126, ↓ix_127, ↓ix_128, ↓ix_129, ↓ix_130, ↓ix_131, ↓ix_132, ↓ix_133, ↓ix_134, ↓ix_135, ↓ix_136, ↓ix_137, ↓ix_138, ↓ix_139, ↓ix_140, ↓ix_141, ↓ix_142, ↓ix_143, Option.bind_some, mx_wr_ne, mx_wr_at, mx_wr_off, mx_rf_ne, mx_no_ne, mx_if_t, Int.toNat_natCast, ix_1, ix_3, ix_4, ix_5, ix_6, ix_7, ix_8, ix_9, ix_10, ix_11, ix_12, ix_13, ix_14, ix_16, ix_17, ix_18, ix_19, ix_20, ix_21, ix_22, ix_23, ix_24, ix_25, ix_26, ix_27, ix_30, ix_31, ix_32, ix_34, ix_35, ix_36, ix_39, ix_40, ix_41, ix_42, ix_44, ix_45, ix_46, ix_47, ix_48, ix_49, ix_50, ix_51, ix_52, ix_53, ix_55, ix_56, ix_57, ix_59, ix_60, ix_61, ix_63, ix_64, ix_65, ix_67, ix_69, ix_71, ix_73, ix_75, ix_77, ix_79, ix_81, ix_83, ix_84, ix_85, ix_86, ix_87, ix_88, ix_89, ix_90, ix_91, ix_92, ix_93, ix_94, ix_95, ix_96, ix_97, ix_98, ix_99, ix_100, ix_101, ix_102, ix_103, ix_104, ix_105, ix_106, ix_107, ix_108, ix_109, ix_110, ix_111, ix_112, ix_113, ix_114, ix_115, ix_116, ix_117, ix_118, ix_119, ix_120, ix_121, ix_122, ix_123, ix_124, ix_125, ix_126, ix_127, ix_128, ix_129, ix_130, ix_131, ix_132, ix_133, ix_134, ix_135, ix_136, ix_137, ix_138, ix_139, ix_140, ix_141, ix_142, ix_143, ↓mx_bd (me_root_s ..)]; rfl
      · rw [mo_group_e]; (try simp only [Int.toNat_natCast, mx_fin1]); simp (disch := first | assumption | omega | decide) only [↓if_pos, ↓if_neg, ↓mx_bi_p, ↓mx_bi_n, ↓mx_m, ↓mx_if_t, ↓mx_if_f1, ↓mx_bd (pm_isShelf_s ..), ↓mx_bd (mo_isShelf_s ..), ↓mx_bd (pm_isColumn_s ..), ↓mx_bd (mo_isFrom_s ..), ↓mx_bd (mo_isGroup_s ..), ↓mx_bd (mo_isExpression_s ..), ↓mx_bd (me_isTable_s ..), ↓mx_bd (me_isExpression_s ..), ↓mx_bd (me_isGroup_s ..), ↓mx_bd (pm_isPriced_s ..), ↓mx_bd (pm_isOrder_s ..), ↓mx_bd (pm_isPlace_s ..), ↓mx_bd (mo_isDemand_s ..), ↓mx_bd (pm_isAllowable_s ..), ↓mx_bd (mo_isWay_s ..), ↓mx_bd (pm_refuse_s ..), ↓mx_bd (pm_refuseFar_s ..), ↓mx_bd (mo_no_s ..), ↓mx_bd (mo_noTen_s ..), ↓ix_1, ↓ix_3, ↓ix_4, ↓ix_5, ↓ix_6, ↓ix_7, ↓ix_8, ↓ix_9, ↓ix_10, ↓ix_11, ↓ix_12, ↓ix_13, ↓ix_14, ↓ix_16, ↓ix_17, ↓ix_18, ↓ix_19, ↓ix_20, ↓ix_21, ↓ix_22, ↓ix_23, ↓ix_24, ↓ix_25, ↓ix_26, ↓ix_27, ↓ix_30, ↓ix_31, ↓ix_32, ↓ix_34, ↓ix_35, ↓ix_36, ↓ix_39, ↓ix_40, ↓ix_41, ↓ix_42, ↓ix_44, ↓ix_45, ↓ix_46, ↓ix_47, ↓ix_48, ↓ix_49, ↓ix_50, ↓ix_51, ↓ix_52, ↓ix_53, ↓ix_55, ↓ix_56, ↓ix_57, ↓ix_59, ↓ix_60, ↓ix_61, ↓ix_63, ↓ix_64, ↓ix_65, ↓ix_67, ↓ix_69, ↓ix_71, ↓ix_73, ↓ix_75, ↓ix_77, ↓ix_79, ↓ix_81, ↓ix_83, ↓ix_84, ↓ix_85, ↓ix_86, ↓ix_87, ↓ix_88, ↓ix_89, ↓ix_90, ↓ix_91, ↓ix_92, ↓ix_93, ↓ix_94, ↓ix_95, ↓ix_96, ↓ix_97, ↓ix_98, ↓ix_99, ↓ix_100, ↓ix_101, ↓ix_102, ↓ix_103, ↓ix_104, ↓ix_105, ↓ix_106, ↓ix_107, ↓ix_108, ↓ix_109, ↓ix_110, ↓ix_111, ↓ix_112, ↓ix_113, ↓ix_114, ↓ix_115, ↓ix_116, ↓ix_117, ↓ix_118, ↓ix_119, ↓ix_120, ↓ix_121, ↓ix_122, ↓ix_123, ↓ix_124, ↓ix_125, ↓ix_126, ↓ix_127, ↓ix_128, ↓ix_129, ↓ix_130, ↓ix_131, ↓ix_132, ↓ix_133, ↓ix_134, ↓ix_135, ↓ix_136, ↓ix_137, ↓ix_138, ↓ix_139, ↓ix_140, ↓ix_141, ↓ix_142, ↓ix_143, Option.bind_some, mx_wr_ne, mx_wr_at, mx_wr_off, mx_rf_ne, mx_no_ne, mx_if_t, Int.toNat_natCast, ix_1, ix_3, ix_4, ix_5, ix_6, ix_7, ix_8, ix_9, ix_10, ix_11, ix_12, ix_13, ix_14, ix_16, ix_17, ix_18, ix_19, ix_20, ix_21, ix_22, ix_23, ix_24, ix_25, ix_26, ix_27, ix_30, ix_31, ix_32, ix_34, ix_35, ix_36, ix_39, ix_40, ix_41, ix_42, ix_44, ix_45, ix_46, ix_47, ix_48, ix_49, ix_50, ix_51, ix_52, ix_53, ix_55, ix_56, ix_57, ix_59, ix_60, ix_61, ix_63, ix_64, ix_65, ix_67, ix_69, ix_71, ix_73, ix_75, ix_77, ix_79, ix_81, ix_83, ix_84, ix_85, ix_86, ix_87, ix_88, ix_89, ix_90, ix_91, ix_92, ix_93, ix_94, ix_95, ix_96, ix_97, ix_98, ix_99, ix_100, ix_101, ix_102, ix_103, ix_104, ix_105, ix_106, ix_107, ix_108, ix_109, ix_110, ix_111, ix_112, ix_113, ix_114, ix_115, ix_116, ix_117, ix_118, ix_119, ix_120, ix_121, ix_122, ix_123, ix_124, ix_125, ix_126, ix_127, ix_128, ix_129, ix_130, ix_131, ix_132, ix_133, ix_134, ix_135, ix_136, ix_137, ix_138, ix_139, ix_140, ix_141, ix_142, ix_143, e82]; rfl
  · exact mx_C_ref hI 5 (-5) (by rw [pm_group_e]; (try simp only [Int.toNat_natCast, mx_fin1]); simp (disch := first | assumption | omega | decide) only [↓if_pos, ↓if_neg, ↓mx_bi_p, ↓mx_bi_n, ↓mx_m, ↓mx_if_t, ↓mx_if_f1, ↓mx_bd (pm_isShelf_s ..), ↓mx_bd (mo_isShelf_s ..), ↓mx_bd (pm_isColumn_s ..), ↓mx_bd (mo_isFrom_s ..), ↓mx_bd (mo_isGroup_s ..), ↓mx_bd (mo_isExpression_s ..), ↓mx_bd (me_isTable_s ..), ↓mx_bd (me_isExpression_s ..), ↓mx_bd (me_isGroup_s ..), ↓mx_bd (pm_isPriced_s ..), ↓mx_bd (pm_isOrder_s ..), ↓mx_bd (pm_isPlace_s ..), ↓mx_bd (mo_isDemand_s ..), ↓mx_bd (pm_isAllowable_s ..), ↓mx_bd (mo_isWay_s ..), ↓mx_bd (pm_refuse_s ..), ↓mx_bd (pm_refuseFar_s ..), ↓mx_bd (mo_no_s ..), ↓mx_bd (mo_noTen_s ..), ↓ix_1, ↓ix_3, ↓ix_4, ↓ix_5, ↓ix_6, ↓ix_7, ↓ix_8, ↓ix_9, ↓ix_10, ↓ix_11, ↓ix_12, ↓ix_13, ↓ix_14, ↓ix_16, ↓ix_17, ↓ix_18, ↓ix_19, ↓ix_20, ↓ix_21, ↓ix_22, ↓ix_23, ↓ix_24, ↓ix_25, ↓ix_26, ↓ix_27, ↓ix_30, ↓ix_31, ↓ix_32, ↓ix_34, ↓ix_35, ↓ix_36, ↓ix_39, ↓ix_40, ↓ix_41, ↓ix_42, ↓ix_44, ↓ix_45, ↓ix_46, ↓ix_47, ↓ix_48, ↓ix_49, ↓ix_50, ↓ix_51, ↓ix_52, ↓ix_53, ↓ix_55, ↓ix_56, ↓ix_57, ↓ix_59, ↓ix_60, ↓ix_61, ↓ix_63, ↓ix_64, ↓ix_65, ↓ix_67, ↓ix_69, ↓ix_71, ↓ix_73, ↓ix_75, ↓ix_77, ↓ix_79, ↓ix_81, ↓ix_83, ↓ix_84, ↓ix_85, ↓ix_86, ↓ix_87, ↓ix_88, ↓ix_89, ↓ix_90, ↓ix_91, ↓ix_92, ↓ix_93, ↓ix_94, ↓ix_95, ↓ix_96, ↓ix_97, ↓ix_98, ↓ix_99, ↓ix_100, ↓ix_101, ↓ix_102, ↓ix_103, ↓ix_104, ↓ix_105, ↓ix_106, ↓ix_107, ↓ix_108, ↓ix_109, ↓ix_110, ↓ix_111, ↓ix_112, ↓ix_113, ↓ix_114, ↓ix_115, ↓ix_116, ↓ix_117, ↓ix_118, ↓ix_119, ↓ix_120, ↓ix_121, ↓ix_122, ↓ix_123, ↓ix_124, ↓ix_125, ↓ix_126, ↓ix_127, ↓ix_128, ↓ix_129, ↓ix_130, ↓ix_131, ↓ix_132, ↓ix_133, ↓ix_134, ↓ix_135, ↓ix_136, ↓ix_137, ↓ix_138, ↓ix_139, ↓ix_140, ↓ix_141, ↓ix_142, ↓ix_143, Option.bind_some, mx_wr_ne, mx_wr_at, mx_wr_off, mx_rf_ne, mx_no_ne, mx_if_t, Int.toNat_natCast, ix_1, ix_3, ix_4, ix_5, ix_6, ix_7, ix_8, ix_9, ix_10, ix_11, ix_12, ix_13, ix_14, ix_16, ix_17, ix_18, ix_19, ix_20, ix_21, ix_22, ix_23, ix_24, ix_25, ix_26, ix_27, ix_30, ix_31, ix_32, ix_34, ix_35, ix_36, ix_39, ix_40, ix_41, ix_42, ix_44, ix_45, ix_46, ix_47, ix_48, ix_49, ix_50, ix_51, ix_52, ix_53, ix_55, ix_56, ix_57, ix_59, ix_60, ix_61, ix_63, ix_64, ix_65, ix_67, ix_69, ix_71, ix_73, ix_75, ix_77, ix_79, ix_81, ix_83, ix_84, ix_85, ix_86, ix_87, ix_88, ix_89, ix_90, ix_91, ix_92, ix_93, ix_94, ix_95, ix_96, ix_97, ix_98, ix_99, ix_100, ix_101, ix_102, ix_103, ix_104, ix_105, ix_106, ix_107, ix_108, ix_109, ix_110, ix_111, ix_112, ix_113, ix_114, ix_115, ix_116, ix_117, ix_118, ix_119, ix_120, ix_121, ix_122, ix_123, ix_124, ix_125, ix_126, ix_127, ix_128, ix_129, ix_130, ix_131, ix_132, ix_133, ix_134, ix_135, ix_136, ix_137, ix_138, ix_139, ix_140, ix_141, ix_142, ix_143, true_and]; rfl) (by rw [mo_group_e]; (try simp only [Int.toNat_natCast, mx_fin1]); simp (disch := first | assumption | omega | decide) only [↓if_pos, ↓if_neg, ↓mx_bi_p, ↓mx_bi_n, ↓mx_m, ↓mx_if_t, ↓mx_if_f1, ↓mx_bd (pm_isShelf_s ..), ↓mx_bd (mo_isShelf_s ..), ↓mx_bd (pm_isColumn_s ..), ↓mx_bd (mo_isFrom_s ..), ↓mx_bd (mo_isGroup_s ..), ↓mx_bd (mo_isExpression_s ..), ↓mx_bd (me_isTable_s ..), ↓mx_bd (me_isExpression_s ..), ↓mx_bd (me_isGroup_s ..), ↓mx_bd (pm_isPriced_s ..), ↓mx_bd (pm_isOrder_s ..), ↓mx_bd (pm_isPlace_s ..), ↓mx_bd (mo_isDemand_s ..), ↓mx_bd (pm_isAllowable_s ..), ↓mx_bd (mo_isWay_s ..), ↓mx_bd (pm_refuse_s ..), ↓mx_bd (pm_refuseFar_s ..), ↓mx_bd (mo_no_s ..), ↓mx_bd (mo_noTen_s ..), ↓ix_1, ↓ix_3, ↓ix_4, ↓ix_5, ↓ix_6, ↓ix_7, ↓ix_8, ↓ix_9, ↓ix_10, ↓ix_11, ↓ix_12, ↓ix_13, ↓ix_14, ↓ix_16, ↓ix_17, ↓ix_18, ↓ix_19, ↓ix_20, ↓ix_21, ↓ix_22, ↓ix_23, ↓ix_24, ↓ix_25, ↓ix_26, ↓ix_27, ↓ix_30, ↓ix_31, ↓ix_32, ↓ix_34, ↓ix_35, ↓ix_36, ↓ix_39, ↓ix_40, ↓ix_41, ↓ix_42, ↓ix_44, ↓ix_45, ↓ix_46, ↓ix_47, ↓ix_48, ↓ix_49, ↓ix_50, ↓ix_51, ↓ix_52, ↓ix_53, ↓ix_55, ↓ix_56, ↓ix_57, ↓ix_59, ↓ix_60, ↓ix_61, ↓ix_63, ↓ix_64, ↓ix_65, ↓ix_67, ↓ix_69, ↓ix_71, ↓ix_73, ↓ix_75, ↓ix_77, ↓ix_79, ↓ix_81, ↓ix_83, ↓ix_84, ↓ix_85, ↓ix_86, ↓ix_87, ↓ix_88, ↓ix_89, ↓ix_90, ↓ix_91, ↓ix_92, ↓ix_93, ↓ix_94, ↓ix_95, ↓ix_96, ↓ix_97, ↓ix_98, ↓ix_99, ↓ix_100, ↓ix_101, ↓ix_102, ↓ix_103, ↓ix_104, ↓ix_105, ↓ix_106, ↓ix_107, ↓ix_108, ↓ix_109, ↓ix_110, ↓ix_111, ↓ix_112, ↓ix_113, ↓ix_114, ↓ix_115, ↓ix_116, ↓ix_117, ↓ix_118, ↓ix_119, ↓ix_120, ↓ix_121, ↓ix_122, ↓ix_123, ↓ix_124, ↓ix_125, ↓ix_126, ↓ix_127, ↓ix_128, ↓ix_129, ↓ix_130, ↓ix_131, ↓ix_132, ↓ix_133, ↓ix_134, ↓ix_135, ↓ix_136, ↓ix_137, ↓ix_138, ↓ix_139, ↓ix_140, ↓ix_141, ↓ix_142, ↓ix_143, Option.bind_some, mx_wr_ne, mx_wr_at, mx_wr_off, mx_rf_ne, mx_no_ne, mx_if_t, Int.toNat_natCast, ix_1, ix_3, ix_4, ix_5, ix_6, ix_7, ix_8, ix_9, ix_10, ix_11, ix_12, ix_13, ix_14, ix_16, ix_17, ix_18, ix_19, ix_20, ix_21, ix_22, ix_23, ix_24, ix_25, ix_26, ix_27, ix_30, ix_31, ix_32, ix_34, ix_35, ix_36, ix_39, ix_40, ix_41, ix_42, ix_44, ix_45, ix_46, ix_47, ix_48, ix_49, ix_50, ix_51, ix_52, ix_53, ix_55, ix_56, ix_57, ix_59, ix_60, ix_61, ix_63, ix_64, ix_65, ix_67, ix_69, ix_71, ix_73, ix_75, ix_77, ix_79, ix_81, ix_83, ix_84, ix_85, ix_86, ix_87, ix_88, ix_89, ix_90, ix_91, ix_92, ix_93, ix_94, ix_95, ix_96, ix_97, ix_98, ix_99, ix_100, ix_101, ix_102, ix_103, ix_104, ix_105, ix_106, ix_107, ix_108, ix_109, ix_110, ix_111, ix_112, ix_113, ix_114, ix_115, ix_116, ix_117, ix_118, ix_119, ix_120, ix_121, ix_122, ix_123, ix_124, ix_125, ix_126, ix_127, ix_128, ix_129, ix_130, ix_131, ix_132, ix_133, ix_134, ix_135, ix_136, ix_137, ix_138, ix_139, ix_140, ix_141, ix_142, ix_143, e82]; rfl)
end
