/-! THE IMAGE: the calls -/
section
variable {t n : Nat} {σ : am_M}
/-- after image() -/
theorem image_I (hI : mx_Inv t n σ) (σ1 A σ2 : am_M) (b1 : mx_Fr [15, 16, 17, 18, 19, 20, 21, 22, 23, 24, 25, 26, 27] σ σ1) (c0 : σ1 15 0 = σ 2 0 ∧ σ1 15 3 = σ 2 3 ∧ σ1 15 9 = σ 2 9 ∧ σ1 15 15 = σ 2 15 ∧ σ1 15 16 = σ 2 16)
    (c : (∀ j : Nat, j < 32 → σ1 16 j = σ 3 j) ∧ (∀ j : Nat, j < 4 → σ1 17 j = σ 4 j) ∧ (∀ j : Nat, j < 64 → σ1 18 j = σ 5 j) ∧ (∀ j : Nat, j < 64 → σ1 19 j = σ 6 j) ∧ (∀ j : Nat, j < 64 → σ1 20 j = σ 7 j) ∧ (∀ j : Nat, j < 64 → σ1 21 j = σ 8 j) ∧ (∀ j : Nat, j < 64 → σ1 22 j = σ 9 j) ∧ (∀ j : Nat, j < 64 → σ1 23 j = σ 10 j) ∧ (∀ j : Nat, j < 64 → σ1 24 j = σ 11 j) ∧ (∀ j : Nat, j < 64 → σ1 25 j = σ 12 j) ∧ (∀ j : Nat, j < 448 → σ1 26 j = σ 13 j) ∧ ∀ j : Nat, j < 7 → σ1 27 j = σ 14 j)
    (bA : mx_Fq [141, 142, 143] [(0, 11), (82, 72), (82, 73), (82, 74)] σ1 A) (a0 : A 0 11 = 1) (f2 : A 82 72 = 141) (f3 : A 82 73 = 142) (f4 : A 82 74 = 143)
    (b2 : mx_Fr [82, 141, 142, 143] A σ2) (e1 : ∀ j, j ≠ 71 → σ2 82 j = A 82 j) (e2 : σ2 82 71 = 1)
    (g0 : σ2 141 0 = A 82 0 ∧ σ2 141 1 = A 82 1 ∧ σ2 141 2 = A 82 2 ∧ σ2 141 3 = A 82 3 ∧ σ2 141 4 = A 82 4 ∧ σ2 141 5 = A 82 5) (g1 : ∀ j : Nat, j < 4 → σ2 141 (6 + j) = A 84 j) (g2 : ∀ j : Nat, j < 7 → σ2 141 (10 + j) = A 97 j)
    (g3 : ∀ j : Nat, j < 8 → σ2 141 (20 + j) = A 85 j ∧ σ2 141 (30 + j) = A 86 j ∧ σ2 141 (40 + j) = A 87 j ∧ σ2 141 (50 + j) = A 88 j)
    (g4 : ∀ j : Nat, j < 64 → σ2 141 (60 + j) = A 89 j ∧ σ2 141 (130 + j) = A 90 j ∧ σ2 141 (200 + j) = A 91 j ∧ σ2 141 (270 + j) = A 92 j ∧ σ2 141 (340 + j) = A 93 j ∧ σ2 141 (410 + j) = A 94 j ∧ σ2 142 j = A 95 j % 2) (g5 : ∀ j : Nat, j < 29120 → σ2 143 j = A 96 j % 2) : mx_Inv (t + 1) 144 σ2 := by
  have hb := mx_I_b hI
  have hK := mx_I_K hI
  have kA : ∀ i j, i ≠ 0 → i ≠ 82 → ¬ (15 ≤ i ∧ i ≤ 27) → i ≠ 141 → i ≠ 142 → i ≠ 143 → A i j = σ i j := fun i j h1 h2 h3 h4 h5 h6 => by
    rw [bA i j (by simp only [List.mem_cons, List.not_mem_nil, or_false, not_or]; omega) (by simp only [List.mem_cons, List.not_mem_nil, or_false, not_or, Prod.mk.injEq]; omega)]
    exact congrFun (b1 i (by simp only [List.mem_cons, List.not_mem_nil, or_false, not_or]; omega)) j
  have k82 : ∀ j, j < 72 → A 82 j = σ 82 j := fun j h1 => by
    rw [bA 82 j (by simp only [List.mem_cons, List.not_mem_nil, or_false, not_or]; omega) (by simp only [List.mem_cons, List.not_mem_nil, or_false, not_or, Prod.mk.injEq]; omega)]
    exact congrFun (b1 82 (by decide)) j
  have kB : ∀ i j, 15 ≤ i → i ≤ 27 → σ2 i j = σ1 i j := fun i j h1 h2 => by
    rw [b2 i (by simp only [List.mem_cons, List.not_mem_nil, or_false, not_or]; omega)]
    exact bA i j (by simp only [List.mem_cons, List.not_mem_nil, or_false, not_or]; omega) (by simp only [List.mem_cons, List.not_mem_nil, or_false, not_or, Prod.mk.injEq]; omega)
  have g : mx_Fq [15, 16, 17, 18, 19, 20, 21, 22, 23, 24, 25, 26, 27, 141, 142, 143] [(0, 11), (82, 71), (82, 72), (82, 73), (82, 74)] σ σ2 :=
    mx_fq_tr (mx_fq_up (mx_fq_of b1) rfl) (mx_fq_tr (mx_fq_up bA rfl) (mx_fq_up (mx_fq_cell (c := 82) (C := [141, 142, 143]) (J := [71]) b2 (fun j hj => e1 j (by rintro rfl; exact absurd hj (by decide)))) rfl))
  obtain ⟨c1, c2, c3, c4, c5, c6, c7, c8, c9, c10, c11, c12⟩ := c
  have q3 := mx_I_3 hI
  have q2 := mx_I_2 hI
  have s15 : σ2 15 0 = σ 2 0 ∧ σ2 15 3 = σ 2 3 ∧ σ2 15 9 = σ 2 9 ∧ σ2 15 15 = σ 2 15 ∧ σ2 15 16 = σ 2 16 := by
    rw [kB 15 0 (by omega) (by omega), kB 15 3 (by omega) (by omega), kB 15 9 (by omega) (by omega), kB 15 15 (by omega) (by omega), kB 15 16 (by omega) (by omega)]
    exact c0
  have hKi : mx_Ki σ2 := by
    show mx_K (σ2 15 0) (σ2 15 3) (σ2 15 9) _ _ _ _ _ _ _ _ _ _ _ _ (σ2 141 0) (σ2 141 1) (σ2 141 2) _ _ _ _ _ _ _ _ _ _ _ _ _ _ (σ2 141 3)
    rw [s15.1, s15.2.1, s15.2.2.1, g0.1, g0.2.1, g0.2.2.1, g0.2.2.2.1, k82 0 (by omega), k82 1 (by omega), k82 2 (by omega), k82 3 (by omega)]
    exact mx_K_cong hK (fun i hi => (kB 16 i (by omega) (by omega)).trans (c1 i hi)) (fun i hi => (kB 17 i (by omega) (by omega)).trans (c2 i hi)) (fun i hi => (kB 18 i (by omega) (by omega)).trans (c3 i hi)) (fun i hi => (kB 19 i (by omega) (by omega)).trans (c4 i hi)) (fun i hi => (kB 20 i (by omega) (by omega)).trans (c5 i hi)) (fun i hi => (kB 21 i (by omega) (by omega)).trans (c6 i hi)) (fun i hi => (kB 22 i (by omega) (by omega)).trans (c7 i hi)) (fun i hi => (kB 23 i (by omega) (by omega)).trans (c8 i hi)) (fun i hi => (kB 24 i (by omega) (by omega)).trans (c9 i hi)) (fun i hi => (kB 25 i (by omega) (by omega)).trans (c10 i hi)) (fun i hi => (kB 26 i (by omega) (by omega)).trans (c11 i hi)) (fun i hi => (kB 27 i (by omega) (by omega)).trans (c12 i hi))
      (fun i hi => (g3 i hi).1.trans (kA 85 i (by decide) (by decide) (by decide) (by decide) (by decide) (by decide))) (fun i hi => (g3 i hi).2.1.trans (kA 86 i (by decide) (by decide) (by decide) (by decide) (by decide) (by decide))) (fun i hi => (g3 i hi).2.2.1.trans (kA 87 i (by decide) (by decide) (by decide) (by decide) (by decide) (by decide))) (fun i hi => (g3 i hi).2.2.2.trans (kA 88 i (by decide) (by decide) (by decide) (by decide) (by decide) (by decide)))
      (fun i hi => (g1 i hi).trans (kA 84 i (by decide) (by decide) (by decide) (by decide) (by decide) (by decide)))
      (fun i hi => (g4 i hi).1.trans (kA 89 i (by decide) (by decide) (by decide) (by decide) (by decide) (by decide))) (fun i hi => (g4 i hi).2.1.trans (kA 90 i (by decide) (by decide) (by decide) (by decide) (by decide) (by decide))) (fun i hi => (g4 i hi).2.2.1.trans (kA 91 i (by decide) (by decide) (by decide) (by decide) (by decide) (by decide))) (fun i hi => (g4 i hi).2.2.2.1.trans (kA 92 i (by decide) (by decide) (by decide) (by decide) (by decide) (by decide))) (fun i hi => (g4 i hi).2.2.2.2.1.trans (kA 93 i (by decide) (by decide) (by decide) (by decide) (by decide) (by decide))) (fun i hi => (g4 i hi).2.2.2.2.2.1.trans (kA 94 i (by decide) (by decide) (by decide) (by decide) (by decide) (by decide)))
      (fun i hi => by
        have := (hK.2.1.1 i hi).2.2.1
        rw [(g4 i (by omega)).2.2.2.2.2.2, kA 95 i (by decide) (by decide) (by decide) (by decide) (by decide) (by decide), this]
        split <;> rfl)
      (fun i hi => by
        rw [g5 i hi, kA 96 i (by decide) (by decide) (by decide) (by decide) (by decide) (by decide)]
        exact mx_mod2 (q2.1.1 i hi))
      (fun i hi => (g2 i hi).trans (kA 97 i (by decide) (by decide) (by decide) (by decide) (by decide) (by decide)))
  have h9 : mx_I9 144 σ2 := mx_I9_i hKi (by rw [b2 0 (by decide)]; exact a0) e2 (by rw [e1 _ (by decide)]; exact f2) (by rw [e1 _ (by decide)]; exact f3) (by rw [e1 _ (by decide)]; exact f4) (by rw [g0.2.2.2.2.1, k82 4 (by omega), s15.2.2.2.1]; exact q3.1) (by rw [g0.2.2.2.2.2, k82 5 (by omega), s15.2.2.2.2]; exact q3.2)
  obtain ⟨i1, i2, i3, i4, i5, i6, i7, i8, i9, iA⟩ := hI
  exact ⟨mx_I1_fr g rfl i1, mx_I2_fr g rfl i2, mx_I3_fr g rfl i3, mx_I4_fr g rfl i4, mx_I5_fr g rfl i5, mx_I6_fr g rfl i6, mx_I7_fr g rfl i7, mx_I8_fr g rfl i8, h9, mx_IA_fr g rfl (mx_IA_S iA)⟩
theorem image_c (hI : mx_Inv t n σ) (d : Nat) : mx_C t n σ (fun σ n => pm_image (d + 3) σ n) (fun σ n => mo_image (d + 3) σ n) := by
  have hb := mx_I_b hI
  obtain ⟨σ1, p1, b1, c1, c2, c3, c4, c5, cc⟩ := me_becomeLikeB_s (σ := σ) (n := n) (d + 1)
  have z1 : pm_image (d + 3) σ n = some (σ 2 3, am_wr σ1 0 11 1, n) := by
    rw [pm_image_e, p1, Option.bind_some]
    simp (disch := first | omega | decide) only [mx_m, mx_wr_ne]
    rw [b1 2 (by decide)]
  have e82 : ∀ j, σ1 82 j = σ 82 j := fun j => congrFun (b1 82 (by decide)) j
  have fin : ∀ A, mx_Fq [141, 142, 143] [(0, 11), (82, 72), (82, 73), (82, 74)] σ1 A → A 0 11 = 1 → A 82 72 = 141 → A 82 73 = 142 → A 82 74 = 143 → ∃ τ, mo_image_35 (d + 2) A 144 = some (σ 2 3, τ, 144) ∧ mx_Inv (t + 1) 144 τ := by
    intro A bA a0 f2 f3 f4
    obtain ⟨τ, r1, r2, r3, r4, r5, r6, r7, r8, r9, r10⟩ := mo_image_35_s (σ := A) (n := 144) (d + 2) f2 f3 f4
    refine ⟨τ, ?_, image_I hI σ1 A τ b1 ⟨c1, c2, c3, c4, c5⟩ cc bA a0 f2 f3 f4 r2 r3 r4 r5 r6 r7 r8 r9 r10⟩
    rw [r1, bA 82 1 (by decide) (by decide), e82, hb.2.2.1]
  rcases mx_I_9 hI with h | h
  · obtain ⟨h1, h2, h3⟩ := h
    subst h3
    obtain ⟨τ, w1, w2⟩ := fin (am_wr (am_new (am_wr (am_new (am_wr (am_new (am_wr σ1 0 11 1) 141) 82 72 141) 142) 82 73 142) 143) 82 74 143) (by
      intro i j hi hj
      simp only [List.mem_cons, List.not_mem_nil, or_false, not_or, Prod.mk.injEq] at hi hj
      simp (disch := first | omega | decide) only [mx_wr_no, mx_new_ne]) rfl rfl rfl rfl
    refine ⟨_, _, τ, 144, z1, ?_, w2⟩
    have q0 : (am_wr σ1 0 11 1) 82 71 = 0 := by rw [mx_wr_ne (by decide), e82]; exact h2
    have : mo_image (d + 3) (am_wr σ1 0 11 1) 141 = mo_image_35 (d + 2) (am_wr (am_new (am_wr (am_new (am_wr (am_new (am_wr σ1 0 11 1) 141) 82 72 141) 142) 82 73 142) 143) 82 74 143) 144 := by
      rw [mo_image_e, if_pos q0]
      rfl
    show mo_image (d + 3) (am_wr σ1 0 11 1) 141 = _
    rw [this, w1]
  · have h0 : σ 0 11 ≠ 0 := by rw [h.1]; decide
    obtain ⟨h3, -, h1, h2, f2, f3, f4, -, -⟩ := mx_I9_o (Or.inr h) h0
    subst h3
    obtain ⟨τ, w1, w2⟩ := fin (am_wr σ1 0 11 1) (by
      intro i j hi hj
      simp only [List.mem_cons, List.not_mem_nil, or_false, not_or, Prod.mk.injEq] at hi hj
      simp (disch := first | omega | decide) only [mx_wr_no]) rfl (by rw [mx_wr_ne (by decide), e82]; exact f2) (by rw [mx_wr_ne (by decide), e82]; exact f3) (by rw [mx_wr_ne (by decide), e82]; exact f4)
    refine ⟨_, _, τ, 144, z1, ?_, w2⟩
    show mo_image (d + 3) (am_wr σ1 0 11 1) 144 = _
    rw [mo_image_e, if_neg (by rw [mx_wr_ne (by decide), e82, h2]; decide), w1]
/-! RESTORE -/
def mx_bad (σ : am_M) (s : Nat) : Prop := σ (66 + 2 * s) 3 ≠ -1 ∧ ¬ (0 ≤ σ (66 + 2 * s) 3 ∧ σ (66 + 2 * s) 3 < σ 2 3)
def mx_r27 (d n i : Nat) (σ : am_M) : Prop := ∃ τ : am_M, pm_restore_27 (d + 1) i σ n = some (σ 2 3, τ, n) ∧ mx_Fr [66, 68, 70, 72, 74, 76, 78, 80] σ τ ∧
    (∀ s j : Nat, s < i → τ (66 + 2 * s) j = σ (66 + 2 * s) j) ∧ ∀ s : Nat, i ≤ s → s < 8 → (mx_bad σ s → τ (66 + 2 * s) 1 = 0 ∧ τ (66 + 2 * s) 2 = -1 ∧ τ (66 + 2 * s) 3 = -1) ∧ (¬ mx_bad σ s → ∀ j, τ (66 + 2 * s) j = σ (66 + 2 * s) j)
theorem pm_restore_27_s (d : Nat) : ∀ (k i : Nat) (σ : am_M), i + k = 8 → mx_r27 d n i σ := by
  intro k
  induction k with
  | zero =>
    intro i σ hi
    refine ⟨σ, ?_, mx_fr_rf, fun _ _ _ => rfl, fun s h1 h2 => by omega⟩
    rw [pm_restore_27_e, if_neg (by omega)]
  | succ k ih =>
    intro i σ hi
    have step : ∀ σ' : am_M, pm_restore_27 (d + 1) i σ n = pm_restore_27 (d + 1) ((i + 1 : Nat) : Int) σ' n → σ' 2 3 = σ 2 3 → mx_Fr [66, 68, 70, 72, 74, 76, 78, 80] σ σ' → (∀ s j, s < 8 → s ≠ i → σ' (66 + 2 * s) j = σ (66 + 2 * s) j) →
        ((mx_bad σ i → σ' (66 + 2 * i) 1 = 0 ∧ σ' (66 + 2 * i) 2 = -1 ∧ σ' (66 + 2 * i) 3 = -1) ∧ (¬ mx_bad σ i → ∀ j, σ' (66 + 2 * i) j = σ (66 + 2 * i) j)) → mx_r27 d n i σ := by
      intro σ' e h23 hF hO hS
      obtain ⟨τ, a1, a2, a3, a4⟩ := ih (i + 1) σ' (by omega)
      refine ⟨τ, by rw [e, a1, h23], mx_fr_tr hF a2, fun s j hs => by rw [a3 s j (by omega), hO s j (by omega) (by omega)], fun s h1 h2 => ?_⟩
      by_cases q : s = i
      · subst q
        refine ⟨fun b => ?_, fun b j => ?_⟩
        · rw [a3 s _ (by omega), a3 s _ (by omega), a3 s _ (by omega)]; exact hS.1 b
        · rw [a3 s _ (by omega)]; exact hS.2 b j
      · have hb : mx_bad σ' s ↔ mx_bad σ s := by unfold mx_bad; rw [hO s 3 h2 q, h23]
        obtain ⟨c1, c2⟩ := a4 s (by omega) h2
        exact ⟨fun b => c1 (hb.mpr b), fun b j => by rw [c2 (fun z => b (hb.mp z)) j, hO s j h2 q]⟩
    have hi8 : i < 8 := by omega
    by_cases h1 : σ (66 + 2 * i) 3 = -1
    · refine step σ ?_ rfl mx_fr_rf (fun _ _ _ _ => rfl) ⟨fun b => absurd h1 b.1, fun _ _ => rfl⟩
      rw [pm_restore_27_e]; (try simp only [Int.toNat_natCast, mx_fin1]); simp (disch := first | assumption | omega | decide) only [↓if_pos, ↓if_neg, ↓mx_bi_p, ↓mx_bi_n, ↓mx_m, ↓mx_if_t, ↓mx_if_f1, ↓mx_bd (pm_isShelf_s ..), ↓mx_bd (mo_isShelf_s ..), ↓mx_bd (pm_isColumn_s ..), ↓mx_bd (mo_isFrom_s ..), ↓mx_bd (mo_isGroup_s ..), ↓mx_bd (mo_isExpression_s ..), ↓mx_bd (me_isTable_s ..), ↓mx_bd (me_isExpression_s ..), ↓mx_bd (me_isGroup_s ..), ↓mx_bd (pm_isPriced_s ..), ↓mx_bd (pm_isOrder_s ..), ↓mx_bd (pm_isPlace_s ..), ↓mx_bd (mo_isDemand_s ..), ↓mx_bd (pm_isAllowable_s ..), ↓mx_bd (mo_isWay_s ..), ↓mx_bd (pm_refuse_s ..), ↓mx_bd (pm_refuseFar_s ..), ↓mx_bd (mo_no_s ..), ↓mx_bd (mo_noTen_s ..), ↓ix_1, ↓ix_3, ↓ix_4, ↓ix_5, ↓ix_6, ↓ix_7, ↓ix_8, ↓ix_9, ↓ix_10, ↓ix_11, ↓ix_12, ↓ix_13, ↓ix_14, ↓ix_16, ↓ix_17, ↓ix_18, ↓ix_19, ↓ix_20, ↓ix_21, ↓ix_22, ↓ix_23, ↓ix_24, ↓ix_25, ↓ix_26, ↓ix_27, ↓ix_30, ↓ix_31, ↓ix_32, ↓ix_34, ↓ix_35, ↓ix_36, ↓ix_39, ↓ix_40, ↓ix_41, ↓ix_42, ↓ix_44, ↓ix_45, ↓ix_46, ↓ix_47, ↓ix_48, ↓ix_49, ↓ix_50, ↓ix_51, ↓ix_52, ↓ix_53, ↓ix_55, ↓ix_56, ↓ix_57, ↓ix_59, ↓ix_60, ↓ix_61, ↓ix_63, ↓ix_64, ↓ix_65, ↓ix_67, ↓ix_69, ↓ix_71, ↓ix_73, ↓ix_75, ↓ix_77, ↓ix_79, ↓ix_81, ↓ix_83, ↓ix_84, ↓ix_85, ↓ix_86, ↓ix_87, ↓ix_88, ↓ix_89, ↓ix_90, ↓ix_91, ↓ix_92, ↓ix_93, ↓ix_94, ↓ix_95, ↓ix_96, ↓ix_97, ↓ix_98, ↓ix_99, ↓ix_100, ↓ix_101, ↓ix_102, ↓ix_103, ↓ix_104, ↓ix_105, ↓ix_106, ↓ix_107, ↓ix_108, ↓ix_109, ↓ix_110, ↓ix_111, ↓ix_112, ↓ix_113, ↓ix_114, ↓ix_115, ↓ix_116, ↓ix_117, ↓ix_118, ↓ix_119, ↓ix_120, ↓ix_121, ↓ix_122, ↓ix_123, ↓ix_124, ↓ix_125, ↓ix_126, ↓ix_127, ↓ix_128, ↓ix_129, ↓ix_130, ↓ix_131, ↓ix_132, ↓ix_133, ↓ix_134, ↓ix_135, ↓ix_136, ↓ix_137, ↓ix_138, ↓ix_139, ↓ix_140, ↓ix_141, ↓ix_142, ↓ix_143, Option.bind_some, mx_wr_ne, mx_wr_at, mx_wr_off, mx_rf_ne, mx_no_ne, mx_if_t, Int.toNat_natCast, ix_1, ix_3, ix_4, ix_5, ix_6, ix_7, ix_8, ix_9, ix_10, ix_11, ix_12, ix_13, ix_14, ix_16, ix_17, ix_18, ix_19, ix_20, ix_21, ix_22, ix_23, ix_24, ix_25, ix_26, ix_27, ix_30, ix_31, ix_32, ix_34, ix_35, ix_36, ix_39, ix_40, ix_41, ix_42, ix_44, ix_45, ix_46, ix_47, ix_48, ix_49, ix_50, ix_51, ix_52, ix_53, ix_55, ix_56, ix_57, ix_59, ix_60, ix_61, ix_63, ix_64, ix_65, ix_67, ix_69, ix_71, ix_73, ix_75, ix_77, ix_79, ix_81, ix_83, ix_84, ix_85, ix_86, ix_87, ix_88, ix_89, ix_90, ix_91, ix_92, ix_93, ix_94, ix_95, ix_96, ix_97, ix_98, ix_99, ix_100, ix_101, ix_102, ix_103, ix_104, ix_105, ix_106, ix_107, ix_108, ix_109, ix_110, ix_111, ix_112, ix_113, ix_114, ix_115, ix_116, ix_117, ix_118, ix_119, ix_120, ix_121, ix_122, ix_123, ix_124, ix_125, ix_126, ix_127, ix_128, ix_129, ix_130, ix_131, ix_132, ix_133, ix_134, ix_135, ix_136, ix_137, ix_138, ix_139, ix_140, ix_141, ix_142, ix_143, mx_fin1, ↓mx_bd (sh_isExpression_s ..), mx_w_id]
      rfl
    · by_cases h2 : 0 ≤ σ (66 + 2 * i) 3 ∧ σ (66 + 2 * i) 3 < σ 2 3
      · refine step σ ?_ rfl mx_fr_rf (fun _ _ _ _ => rfl) ⟨fun b => absurd h2 b.2, fun _ _ => rfl⟩
        rw [pm_restore_27_e]; (try simp only [Int.toNat_natCast, mx_fin1]); simp (disch := first | assumption | omega | decide) only [↓if_pos, ↓if_neg, ↓mx_bi_p, ↓mx_bi_n, ↓mx_m, ↓mx_if_t, ↓mx_if_f1, ↓mx_bd (pm_isShelf_s ..), ↓mx_bd (mo_isShelf_s ..), ↓mx_bd (pm_isColumn_s ..), ↓mx_bd (mo_isFrom_s ..), ↓mx_bd (mo_isGroup_s ..), ↓mx_bd (mo_isExpression_s ..), ↓mx_bd (me_isTable_s ..), ↓mx_bd (me_isExpression_s ..), ↓mx_bd (me_isGroup_s ..), ↓mx_bd (pm_isPriced_s ..), ↓mx_bd (pm_isOrder_s ..), ↓mx_bd (pm_isPlace_s ..), ↓mx_bd (mo_isDemand_s ..), ↓mx_bd (pm_isAllowable_s ..), ↓mx_bd (mo_isWay_s ..), ↓mx_bd (pm_refuse_s ..), ↓mx_bd (pm_refuseFar_s ..), ↓mx_bd (mo_no_s ..), ↓mx_bd (mo_noTen_s ..), ↓ix_1, ↓ix_3, ↓ix_4, ↓ix_5, ↓ix_6, ↓ix_7, ↓ix_8, ↓ix_9, ↓ix_10, ↓ix_11, ↓ix_12, ↓ix_13, ↓ix_14, ↓ix_16, ↓ix_17, ↓ix_18, ↓ix_19, ↓ix_20, ↓ix_21, ↓ix_22, ↓ix_23, ↓ix_24, ↓ix_25, ↓ix_26, ↓ix_27, ↓ix_30, ↓ix_31, ↓ix_32, ↓ix_34, ↓ix_35, ↓ix_36, ↓ix_39, ↓ix_40, ↓ix_41, ↓ix_42, ↓ix_44, ↓ix_45, ↓ix_46, ↓ix_47, ↓ix_48, ↓ix_49, ↓ix_50, ↓ix_51, ↓ix_52, ↓ix_53, ↓ix_55, ↓ix_56, ↓ix_57, ↓ix_59, ↓ix_60, ↓ix_61, ↓ix_63, ↓ix_64, ↓ix_65, ↓ix_67, ↓ix_69, ↓ix_71, ↓ix_73, ↓ix_75, ↓ix_77, ↓ix_79, ↓ix_81, ↓ix_83, ↓ix_84, ↓ix_85, ↓ix_86, ↓ix_87, ↓ix_88, ↓ix_89, ↓ix_90, ↓ix_91, ↓ix_92, ↓ix_93, ↓ix_94, ↓ix_95, ↓ix_96, ↓ix_97, ↓ix_98, ↓ix_99, ↓ix_100, ↓ix_101, ↓ix_102, ↓ix_103, ↓ix_104, ↓ix_105, ↓ix_106, ↓ix_107, ↓ix_108, ↓ix_109, ↓ix_110, ↓ix_111, ↓ix_112, ↓ix_113, ↓ix_114, ↓ix_115, ↓ix_116, ↓ix_117, ↓ix_118, ↓ix_119, ↓ix_120, ↓ix_121, ↓ix_122, ↓ix_123, ↓ix_124, ↓ix_125, ↓ix_126, ↓ix_127, ↓ix_128, ↓ix_129, ↓ix_130, ↓ix_131, ↓ix_132, ↓ix_133, ↓ix_134, ↓ix_135, ↓ix_136, ↓ix_137, ↓ix_138, ↓ix_139, ↓ix_140, ↓ix_141, ↓ix_142, ↓ix_143, Option.bind_some, mx_wr_ne, mx_wr_at, mx_wr_off, mx_rf_ne, mx_no_ne, mx_if_t, Int.toNat_natCast, ix_1, ix_3, ix_4, ix_5, ix_6, ix_7, ix_8, ix_9, ix_10, ix_11, ix_12, ix_13, ix_14, ix_16, ix_17, ix_18, ix_19, ix_20, ix_21, ix_22, ix_23, ix_24, ix_25, ix_26, ix_27, ix_30, ix_31, ix_32, ix_34, ix_35, ix_36, ix_39, ix_40, ix_41, ix_42, ix_44, ix_45, ix_46, ix_47, ix_48, ix_49, ix_50, ix_51, ix_52, ix_53, ix_55, ix_56, ix_57, ix_59, ix_60, ix_61, ix_63, ix_64, ix_65, ix_67, ix_69, ix_71, ix_73, ix_75, ix_77, ix_79, ix_81, ix_83, ix_84, ix_85, ix_86, ix_87, ix_88, ix_89, ix_90, ix_91, ix_92, ix_93, ix_94, ix_95, ix_96, ix_97, ix_98, ix_99, ix_100, ix_101, ix_102, ix_103, ix_104, ix_105, ix_106, ix_107, ix_108, ix_109, ix_110, ix_111, ix_112, ix_113, ix_114, ix_115, ix_116, ix_117, ix_118, ix_119, ix_120, ix_121, ix_122, ix_123, ix_124, ix_125, ix_126, ix_127, ix_128, ix_129, ix_130, ix_131, ix_132, ix_133, ix_134, ix_135, ix_136, ix_137, ix_138, ix_139, ix_140, ix_141, ix_142, ix_143, mx_fin1, ↓mx_bd (sh_isExpression_s ..), mx_w_id]
        rfl
      · refine step (am_wr (am_wr (am_wr σ (66 + 2 * i) 2 (-1)) (66 + 2 * i) 1 0) (66 + 2 * i) 3 (-1)) ?_ ?_ ?_ ?_ ⟨fun _ => ⟨?_, ?_, ?_⟩, fun b => absurd ⟨h1, h2⟩ b⟩
        · rw [pm_restore_27_e]; (try simp only [Int.toNat_natCast, mx_fin1]); simp (disch := first | assumption | omega | decide) only [↓if_pos, ↓if_neg, ↓mx_bi_p, ↓mx_bi_n, ↓mx_m, ↓mx_if_t, ↓mx_if_f1, ↓mx_bd (pm_isShelf_s ..), ↓mx_bd (mo_isShelf_s ..), ↓mx_bd (pm_isColumn_s ..), ↓mx_bd (mo_isFrom_s ..), ↓mx_bd (mo_isGroup_s ..), ↓mx_bd (mo_isExpression_s ..), ↓mx_bd (me_isTable_s ..), ↓mx_bd (me_isExpression_s ..), ↓mx_bd (me_isGroup_s ..), ↓mx_bd (pm_isPriced_s ..), ↓mx_bd (pm_isOrder_s ..), ↓mx_bd (pm_isPlace_s ..), ↓mx_bd (mo_isDemand_s ..), ↓mx_bd (pm_isAllowable_s ..), ↓mx_bd (mo_isWay_s ..), ↓mx_bd (pm_refuse_s ..), ↓mx_bd (pm_refuseFar_s ..), ↓mx_bd (mo_no_s ..), ↓mx_bd (mo_noTen_s ..), ↓ix_1, ↓ix_3, ↓ix_4, ↓ix_5, ↓ix_6, ↓ix_7, ↓ix_8, ↓ix_9, ↓ix_10, ↓ix_11, ↓ix_12, ↓ix_13, ↓ix_14, ↓ix_16, ↓ix_17, ↓ix_18, ↓ix_19, ↓ix_20, ↓ix_21, ↓ix_22, ↓ix_23, ↓ix_24, ↓ix_25, ↓ix_26, ↓ix_27, ↓ix_30, ↓ix_31, ↓ix_32, ↓ix_34, ↓ix_35, ↓ix_36, ↓ix_39, ↓ix_40, ↓ix_41, ↓ix_42, ↓ix_44, ↓ix_45, ↓ix_46, ↓ix_47, ↓ix_48, ↓ix_49, ↓ix_50, ↓ix_51, ↓ix_52, ↓ix_53, ↓ix_55, ↓ix_56, ↓ix_57, ↓ix_59, ↓ix_60, ↓ix_61, ↓ix_63, ↓ix_64, ↓ix_65, ↓ix_67, ↓ix_69, ↓ix_71, ↓ix_73, ↓ix_75, ↓ix_77, ↓ix_79, ↓ix_81, ↓ix_83, ↓ix_84, ↓ix_85, ↓ix_86, ↓ix_87, ↓ix_88, ↓ix_89, ↓ix_90, ↓ix_91, ↓ix_92, ↓ix_93, ↓ix_94, ↓ix_95, ↓ix_96, ↓ix_97, ↓ix_98, ↓ix_99, ↓ix_100, ↓ix_101, ↓ix_102, ↓ix_103, ↓ix_104, ↓ix_105, ↓ix_106, ↓ix_107, ↓ix_108, ↓ix_109, ↓ix_110, ↓ix_111, ↓ix_112, ↓ix_113, ↓ix_114, ↓ix_115, ↓ix_116, ↓ix_117, ↓ix_118, ↓ix_119, ↓ix_120, ↓ix_121, ↓ix_122, ↓ix_123, ↓ix_124, ↓ix_125, ↓ix_126, ↓ix_127, ↓ix_128, ↓ix_129, ↓ix_130, ↓ix_131, ↓ix_132, ↓ix_133, ↓ix_134, ↓ix_135, ↓ix_136, ↓ix_137, ↓ix_138, ↓ix_139, ↓ix_140, ↓ix_141, ↓ix_142, ↓ix_143, Option.bind_some, mx_wr_ne, mx_wr_at, mx_wr_off, mx_rf_ne, mx_no_ne, mx_if_t, Int.toNat_natCast, ix_1, ix_3, ix_4, ix_5, ix_6, ix_7, ix_8, ix_9, ix_10, ix_11, ix_12, ix_13, ix_14, ix_16, ix_17, ix_18, ix_19, ix_20, ix_21, ix_22, ix_23, ix_24, ix_25, ix_26, ix_27, ix_30, ix_31, ix_32, ix_34, ix_35, ix_36, ix_39, ix_40, ix_41, ix_42, ix_44, ix_45, ix_46, ix_47, ix_48, ix_49, ix_50, ix_51, ix_52, ix_53, ix_55, ix_56, ix_57, ix_59, ix_60, ix_61, ix_63, ix_64, ix_65, ix_67, ix_69, ix_71, ix_73, ix_75, ix_77, ix_79, ix_81, ix_83, ix_84, ix_85, ix_86, ix_87, ix_88, ix_89, ix_90, ix_91, ix_92, ix_93, ix_94, ix_95, ix_96, ix_97, ix_98, ix_99, ix_100, ix_101, ix_102, ix_103, ix_104, ix_105, ix_106, ix_107, ix_108, ix_109, ix_110, ix_111, ix_112, ix_113, ix_114, ix_115, ix_116, ix_117, ix_118, ix_119, ix_120, ix_121, ix_122, ix_123, ix_124, ix_125, ix_126, ix_127, ix_128, ix_129, ix_130, ix_131, ix_132, ix_133, ix_134, ix_135, ix_136, ix_137, ix_138, ix_139, ix_140, ix_141, ix_142, ix_143, mx_fin1, ↓mx_bd (sh_isExpression_s ..), ↓mx_bd (sh_takeExpression_s ..), mx_w_id]
          rfl
        · simp (disch := first | omega | decide) only [mx_wr_ne]
        · intro c hc
          simp only [List.mem_cons, List.not_mem_nil, or_false, not_or] at hc
          simp (disch := first | omega | decide) only [mx_wr_ne]
        · intro s j hs hne
          simp (disch := first | omega | decide) only [mx_wr_ne]
        · simp (disch := first | omega | decide) only [mx_wr_at, mx_wr_off]
        · simp (disch := first | omega | decide) only [mx_wr_at, mx_wr_off]
        · simp (disch := first | omega | decide) only [mx_wr_at, mx_wr_off]
def mx_r308 (d n i : Nat) (σ : am_M) : Prop := ∃ τ : am_M, mo_restore_308 d i σ n = some (σ 82 1, τ, n) ∧ mx_Fr [98] σ τ ∧ (∀ s : Nat, s < i → τ 98 s = σ 98 s) ∧ ∀ s : Nat, i ≤ s → s < 8 → τ 98 s = if σ 98 s = 2 ∧ ¬ σ 101 s < σ 82 1 then 0 else σ 98 s
theorem mo_restore_308_s (d : Nat) : ∀ (k i : Nat) (σ : am_M), i + k = 8 → mx_r308 d n i σ := by
  intro k
  induction k with
  | zero =>
    intro i σ hi
    refine ⟨σ, ?_, mx_fr_rf, fun _ _ => rfl, fun s h1 h2 => by omega⟩
    rw [mo_restore_308_e, if_neg (by omega)]
  | succ k ih =>
    intro i σ hi
    have step : ∀ v : Int, mo_restore_308 d i σ n = mo_restore_308 d ((i + 1 : Nat) : Int) (am_wr σ 98 i v) n → v = (if σ 98 i = 2 ∧ ¬ σ 101 i < σ 82 1 then 0 else σ 98 i) → mx_r308 d n i σ := by
      intro v e hv
      obtain ⟨τ, a1, a2, a3, a4⟩ := ih (i + 1) (am_wr σ 98 i v) (by omega)
      refine ⟨τ, by rw [e, a1, mx_wr_ne (by decide)], mx_fr_tr mx_fr_w1 a2, fun s hs => by rw [a3 s (by omega), mx_wr_off (by omega)], fun s h1 h2 => ?_⟩
      by_cases q : s = i
      · subst q
        rw [a3 s (by omega), mx_wr_at, hv]
      · rw [a4 s (by omega) h2, mx_wr_off q, mx_wr_ne (by decide), mx_wr_ne (by decide)]
    have hi8 : i < 8 := by omega
    by_cases h1 : σ 98 i = 2
    · by_cases h2 : σ 101 i < σ 82 1
      · refine step (σ 98 i) ?_ (by rw [if_neg (by omega)])
        rw [mx_wr_same]
        rw [mo_restore_308_e]; (try simp only [Int.toNat_natCast, mx_fin1]); simp (disch := first | assumption | omega | decide) only [↓if_pos, ↓if_neg, ↓mx_bi_p, ↓mx_bi_n, ↓mx_m, ↓mx_if_t, ↓mx_if_f1, ↓mx_bd (pm_isShelf_s ..), ↓mx_bd (mo_isShelf_s ..), ↓mx_bd (pm_isColumn_s ..), ↓mx_bd (mo_isFrom_s ..), ↓mx_bd (mo_isGroup_s ..), ↓mx_bd (mo_isExpression_s ..), ↓mx_bd (me_isTable_s ..), ↓mx_bd (me_isExpression_s ..), ↓mx_bd (me_isGroup_s ..), ↓mx_bd (pm_isPriced_s ..), ↓mx_bd (pm_isOrder_s ..), ↓mx_bd (pm_isPlace_s ..), ↓mx_bd (mo_isDemand_s ..), ↓mx_bd (pm_isAllowable_s ..), ↓mx_bd (mo_isWay_s ..), ↓mx_bd (pm_refuse_s ..), ↓mx_bd (pm_refuseFar_s ..), ↓mx_bd (mo_no_s ..), ↓mx_bd (mo_noTen_s ..), ↓ix_1, ↓ix_3, ↓ix_4, ↓ix_5, ↓ix_6, ↓ix_7, ↓ix_8, ↓ix_9, ↓ix_10, ↓ix_11, ↓ix_12, ↓ix_13, ↓ix_14, ↓ix_16, ↓ix_17, ↓ix_18, ↓ix_19, ↓ix_20, ↓ix_21, ↓ix_22, ↓ix_23, ↓ix_24, ↓ix_25, ↓ix_26, ↓ix_27, ↓ix_30, ↓ix_31, ↓ix_32, ↓ix_34, ↓ix_35, ↓ix_36, ↓ix_39, ↓ix_40, ↓ix_41, ↓ix_42, ↓ix_44, ↓ix_45, ↓ix_46, ↓ix_47, ↓ix_48, ↓ix_49, ↓ix_50, ↓ix_51, ↓ix_52, ↓ix_53, ↓ix_55, ↓ix_56, ↓ix_57, ↓ix_59, ↓ix_60, ↓ix_61, ↓ix_63, ↓ix_64, ↓ix_65, ↓ix_67, ↓ix_69, ↓ix_71, ↓ix_73, ↓ix_75, ↓ix_77, ↓ix_79, ↓ix_81, ↓ix_83, ↓ix_84, ↓ix_85, ↓ix_86, ↓ix_87, ↓ix_88, ↓ix_89, ↓ix_90, ↓ix_91, ↓ix_92, ↓ix_93, ↓ix_94, ↓ix_95, ↓ix_96, ↓ix_97, ↓ix_98, ↓ix_99, ↓ix_100, ↓ix_101, ↓ix_102, ↓ix_103, ↓ix_104, ↓ix_105, ↓ix_106, ↓ix_107, ↓ix_108, ↓ix_109, ↓ix_110, ↓ix_111, ↓ix_112, ↓ix_113, ↓ix_114, ↓ix_115, ↓ix_116, ↓ix_117, ↓ix_118, ↓ix_119, ↓ix_120, ↓ix_121, ↓ix_122, ↓ix_123, ↓ix_124, ↓ix_125, ↓ix_126, ↓ix_127, ↓ix_128, ↓ix_129, ↓ix_130, ↓ix_131, ↓ix_132, ↓ix_133, ↓ix_134, ↓ix_135, ↓ix_136, ↓ix_137, ↓ix_138, ↓ix_139, ↓ix_140, ↓ix_141, ↓ix_142, ↓ix_143, Option.bind_some, mx_wr_ne, mx_wr_at, mx_wr_off, mx_rf_ne, mx_no_ne, mx_if_t, Int.toNat_natCast, ix_1, ix_3, ix_4, ix_5, ix_6, ix_7, ix_8, ix_9, ix_10, ix_11, ix_12, ix_13, ix_14, ix_16, ix_17, ix_18, ix_19, ix_20, ix_21, ix_22, ix_23, ix_24, ix_25, ix_26, ix_27, ix_30, ix_31, ix_32, ix_34, ix_35, ix_36, ix_39, ix_40, ix_41, ix_42, ix_44, ix_45, ix_46, ix_47, ix_48, ix_49, ix_50, ix_51, ix_52, ix_53, ix_55, ix_56, ix_57, ix_59, ix_60, ix_61, ix_63, ix_64, ix_65, ix_67, ix_69, ix_71, ix_73, ix_75, ix_77, ix_79, ix_81, ix_83, ix_84, ix_85, ix_86, ix_87, ix_88, ix_89, ix_90, ix_91, ix_92, ix_93, ix_94, ix_95, ix_96, ix_97, ix_98, ix_99, ix_100, ix_101, ix_102, ix_103, ix_104, ix_105, ix_106, ix_107, ix_108, ix_109, ix_110, ix_111, ix_112, ix_113, ix_114, ix_115, ix_116, ix_117, ix_118, ix_119, ix_120, ix_121, ix_122, ix_123, ix_124, ix_125, ix_126, ix_127, ix_128, ix_129, ix_130, ix_131, ix_132, ix_133, ix_134, ix_135, ix_136, ix_137, ix_138, ix_139, ix_140, ix_141, ix_142, ix_143, mx_w_id]
        rfl
      · refine step 0 ?_ (by rw [if_pos ⟨h1, h2⟩])
        rw [mo_restore_308_e]; (try simp only [Int.toNat_natCast, mx_fin1]); simp (disch := first | assumption | omega | decide) only [↓if_pos, ↓if_neg, ↓mx_bi_p, ↓mx_bi_n, ↓mx_m, ↓mx_if_t, ↓mx_if_f1, ↓mx_bd (pm_isShelf_s ..), ↓mx_bd (mo_isShelf_s ..), ↓mx_bd (pm_isColumn_s ..), ↓mx_bd (mo_isFrom_s ..), ↓mx_bd (mo_isGroup_s ..), ↓mx_bd (mo_isExpression_s ..), ↓mx_bd (me_isTable_s ..), ↓mx_bd (me_isExpression_s ..), ↓mx_bd (me_isGroup_s ..), ↓mx_bd (pm_isPriced_s ..), ↓mx_bd (pm_isOrder_s ..), ↓mx_bd (pm_isPlace_s ..), ↓mx_bd (mo_isDemand_s ..), ↓mx_bd (pm_isAllowable_s ..), ↓mx_bd (mo_isWay_s ..), ↓mx_bd (pm_refuse_s ..), ↓mx_bd (pm_refuseFar_s ..), ↓mx_bd (mo_no_s ..), ↓mx_bd (mo_noTen_s ..), ↓ix_1, ↓ix_3, ↓ix_4, ↓ix_5, ↓ix_6, ↓ix_7, ↓ix_8, ↓ix_9, ↓ix_10, ↓ix_11, ↓ix_12, ↓ix_13, ↓ix_14, ↓ix_16, ↓ix_17, ↓ix_18, ↓ix_19, ↓ix_20, ↓ix_21, ↓ix_22, ↓ix_23, ↓ix_24, ↓ix_25, ↓ix_26, ↓ix_27, ↓ix_30, ↓ix_31, ↓ix_32, ↓ix_34, ↓ix_35, ↓ix_36, ↓ix_39, ↓ix_40, ↓ix_41, ↓ix_42, ↓ix_44, ↓ix_45, ↓ix_46, ↓ix_47, ↓ix_48, ↓ix_49, ↓ix_50, ↓ix_51, ↓ix_52, ↓ix_53, ↓ix_55, ↓ix_56, ↓ix_57, ↓ix_59, ↓ix_60, ↓ix_61, ↓ix_63, ↓ix_64, ↓ix_65, ↓ix_67, ↓ix_69, ↓ix_71, ↓ix_73, ↓ix_75, ↓ix_77, ↓ix_79, ↓ix_81, ↓ix_83, ↓ix_84, ↓ix_85, ↓ix_86, ↓ix_87, ↓ix_88, ↓ix_89, ↓ix_90, ↓ix_91, ↓ix_92, ↓ix_93, ↓ix_94, ↓ix_95, ↓ix_96, ↓ix_97, ↓ix_98, ↓ix_99, ↓ix_100, ↓ix_101, ↓ix_102, ↓ix_103, ↓ix_104, ↓ix_105, ↓ix_106, ↓ix_107, ↓ix_108, ↓ix_109, ↓ix_110, ↓ix_111, ↓ix_112, ↓ix_113, ↓ix_114, ↓ix_115, ↓ix_116, ↓ix_117, ↓ix_118, ↓ix_119, ↓ix_120, ↓ix_121, ↓ix_122, ↓ix_123, ↓ix_124, ↓ix_125, ↓ix_126, ↓ix_127, ↓ix_128, ↓ix_129, ↓ix_130, ↓ix_131, ↓ix_132, ↓ix_133, ↓ix_134, ↓ix_135, ↓ix_136, ↓ix_137, ↓ix_138, ↓ix_139, ↓ix_140, ↓ix_141, ↓ix_142, ↓ix_143, Option.bind_some, mx_wr_ne, mx_wr_at, mx_wr_off, mx_rf_ne, mx_no_ne, mx_if_t, Int.toNat_natCast, ix_1, ix_3, ix_4, ix_5, ix_6, ix_7, ix_8, ix_9, ix_10, ix_11, ix_12, ix_13, ix_14, ix_16, ix_17, ix_18, ix_19, ix_20, ix_21, ix_22, ix_23, ix_24, ix_25, ix_26, ix_27, ix_30, ix_31, ix_32, ix_34, ix_35, ix_36, ix_39, ix_40, ix_41, ix_42, ix_44, ix_45, ix_46, ix_47, ix_48, ix_49, ix_50, ix_51, ix_52, ix_53, ix_55, ix_56, ix_57, ix_59, ix_60, ix_61, ix_63, ix_64, ix_65, ix_67, ix_69, ix_71, ix_73, ix_75, ix_77, ix_79, ix_81, ix_83, ix_84, ix_85, ix_86, ix_87, ix_88, ix_89, ix_90, ix_91, ix_92, ix_93, ix_94, ix_95, ix_96, ix_97, ix_98, ix_99, ix_100, ix_101, ix_102, ix_103, ix_104, ix_105, ix_106, ix_107, ix_108, ix_109, ix_110, ix_111, ix_112, ix_113, ix_114, ix_115, ix_116, ix_117, ix_118, ix_119, ix_120, ix_121, ix_122, ix_123, ix_124, ix_125, ix_126, ix_127, ix_128, ix_129, ix_130, ix_131, ix_132, ix_133, ix_134, ix_135, ix_136, ix_137, ix_138, ix_139, ix_140, ix_141, ix_142, ix_143, mx_w_id]
        rfl
    · refine step (σ 98 i) ?_ (by rw [if_neg (by omega)])
      rw [mx_wr_same]
      rw [mo_restore_308_e]; (try simp only [Int.toNat_natCast, mx_fin1]); simp (disch := first | assumption | omega | decide) only [↓if_pos, ↓if_neg, ↓mx_bi_p, ↓mx_bi_n, ↓mx_m, ↓mx_if_t, ↓mx_if_f1, ↓mx_bd (pm_isShelf_s ..), ↓mx_bd (mo_isShelf_s ..), ↓mx_bd (pm_isColumn_s ..), ↓mx_bd (mo_isFrom_s ..), ↓mx_bd (mo_isGroup_s ..), ↓mx_bd (mo_isExpression_s ..), ↓mx_bd (me_isTable_s ..), ↓mx_bd (me_isExpression_s ..), ↓mx_bd (me_isGroup_s ..), ↓mx_bd (pm_isPriced_s ..), ↓mx_bd (pm_isOrder_s ..), ↓mx_bd (pm_isPlace_s ..), ↓mx_bd (mo_isDemand_s ..), ↓mx_bd (pm_isAllowable_s ..), ↓mx_bd (mo_isWay_s ..), ↓mx_bd (pm_refuse_s ..), ↓mx_bd (pm_refuseFar_s ..), ↓mx_bd (mo_no_s ..), ↓mx_bd (mo_noTen_s ..), ↓ix_1, ↓ix_3, ↓ix_4, ↓ix_5, ↓ix_6, ↓ix_7, ↓ix_8, ↓ix_9, ↓ix_10, ↓ix_11, ↓ix_12, ↓ix_13, ↓ix_14, ↓ix_16, ↓ix_17, ↓ix_18, ↓ix_19, ↓ix_20, ↓ix_21, ↓ix_22, ↓ix_23, ↓ix_24, ↓ix_25, ↓ix_26, ↓ix_27, ↓ix_30, ↓ix_31, ↓ix_32, ↓ix_34, ↓ix_35, ↓ix_36, ↓ix_39, ↓ix_40, ↓ix_41, ↓ix_42, ↓ix_44, ↓ix_45, ↓ix_46, ↓ix_47, ↓ix_48, ↓ix_49, ↓ix_50, ↓ix_51, ↓ix_52, ↓ix_53, ↓ix_55, ↓ix_56, ↓ix_57, ↓ix_59, ↓ix_60, ↓ix_61, ↓ix_63, ↓ix_64, ↓ix_65, ↓ix_67, ↓ix_69, ↓ix_71, ↓ix_73, ↓ix_75, ↓ix_77, ↓ix_79, ↓ix_81, ↓ix_83, ↓ix_84, ↓ix_85, ↓ix_86, ↓ix_87, ↓ix_88, ↓ix_89, ↓ix_90, ↓ix_91, ↓ix_92, ↓ix_93, ↓ix_94, ↓ix_95, ↓ix_96, ↓ix_97, ↓ix_98, ↓ix_99, ↓ix_100, ↓ix_101, ↓ix_102, ↓ix_103, ↓ix_104, ↓ix_105, ↓ix_106, ↓ix_107, ↓ix_108, ↓ix_109, ↓ix_110, ↓ix_111, ↓ix_112, ↓ix_113, ↓ix_114, ↓ix_115, ↓ix_116, ↓ix_117, ↓ix_118, ↓ix_119, ↓ix_120, ↓ix_121, ↓ix_122, ↓ix_123, ↓ix_124, ↓ix_125, ↓ix_126, ↓ix_127, ↓ix_128, ↓ix_129, ↓ix_130, ↓ix_131, ↓ix_132, ↓ix_133, ↓ix_134, ↓ix_135, ↓ix_136, ↓ix_137, ↓ix_138, ↓ix_139, ↓ix_140, ↓ix_141, ↓ix_142, ↓ix_143, Option.bind_some, mx_wr_ne, mx_wr_at, mx_wr_off, mx_rf_ne, mx_no_ne, mx_if_t, Int.toNat_natCast, ix_1, ix_3, ix_4, ix_5, ix_6, ix_7, ix_8, ix_9, ix_10, ix_11, ix_12, ix_13, ix_14, ix_16, ix_17, ix_18, ix_19, ix_20, ix_21, ix_22, ix_23, ix_24, ix_25, ix_26, ix_27, ix_30, ix_31, ix_32, ix_34, ix_35, ix_36, ix_39, ix_40, ix_41, ix_42, ix_44, ix_45, ix_46, ix_47, ix_48, ix_49, ix_50, ix_51, ix_52, ix_53, ix_55, ix_56, ix_57, ix_59, ix_60, ix_61, ix_63, ix_64, ix_65, ix_67, ix_69, ix_71, ix_73, ix_75, ix_77, ix_79, ix_81, ix_83, ix_84, ix_85, ix_86, ix_87, ix_88, ix_89, ix_90, ix_91, ix_92, ix_93, ix_94, ix_95, ix_96, ix_97, ix_98, ix_99, ix_100, ix_101, ix_102, ix_103, ix_104, ix_105, ix_106, ix_107, ix_108, ix_109, ix_110, ix_111, ix_112, ix_113, ix_114, ix_115, ix_116, ix_117, ix_118, ix_119, ix_120, ix_121, ix_122, ix_123, ix_124, ix_125, ix_126, ix_127, ix_128, ix_129, ix_130, ix_131, ix_132, ix_133, ix_134, ix_135, ix_136, ix_137, ix_138, ix_139, ix_140, ix_141, ix_142, ix_143, mx_w_id]
      rfl
theorem mo_restore_s (d : Nat) (h1 : σ 82 71 = 1) (f2 : σ 82 72 = 141) (f3 : σ 82 73 = 142) (f4 : σ 82 74 = 143) : ∃ τ : am_M, mo_restore (d + 1) σ n = mo_restore_308 d 0 τ n ∧ mx_Fq [84, 85, 86, 87, 88, 89, 90, 91, 92, 93, 94, 95, 96, 97] [(82, 0), (82, 1), (82, 2), (82, 3), (82, 4), (82, 5)] σ τ ∧
    (τ 82 0 = σ 141 0 ∧ τ 82 1 = σ 141 1 ∧ τ 82 2 = σ 141 2 ∧ τ 82 3 = σ 141 3 ∧ τ 82 4 = σ 141 4 ∧ τ 82 5 = σ 141 5) ∧ (∀ j : Nat, j < 4 → τ 84 j = σ 141 (6 + j)) ∧ (∀ j : Nat, j < 7 → τ 97 j = σ 141 (10 + j)) ∧
    (∀ j : Nat, j < 8 → τ 85 j = σ 141 (20 + j) ∧ τ 86 j = σ 141 (30 + j) ∧ τ 87 j = σ 141 (40 + j) ∧ τ 88 j = σ 141 (50 + j)) ∧
    (∀ j : Nat, j < 64 → τ 89 j = σ 141 (60 + j) ∧ τ 90 j = σ 141 (130 + j) ∧ τ 91 j = σ 141 (200 + j) ∧ τ 92 j = σ 141 (270 + j) ∧ τ 93 j = σ 141 (340 + j) ∧ τ 94 j = σ 141 (410 + j) ∧ τ 95 j = σ 142 j % 2) ∧ ∀ j : Nat, j < 29120 → τ 96 j = σ 143 j % 2 := by
  obtain ⟨σ0, h0⟩ : ∃ σ0, σ0 = am_wr (am_wr (am_wr (am_wr (am_wr (am_wr σ 82 0 (σ 141 0)) 82 1 (σ 141 1)) 82 2 (σ 141 2)) 82 3 (σ 141 3)) 82 4 (σ 141 4)) 82 5 (σ 141 5) := ⟨_, rfl⟩
  have g0 : ∀ c j, c ≠ 82 → σ0 c j = σ c j := fun c j hc => by rw [h0]; simp (disch := first | omega | decide) only [mx_wr_ne]
  have g82 : ∀ j, 6 ≤ j → σ0 82 j = σ 82 j := fun j hj => by rw [h0]; simp (disch := first | omega | decide) only [mx_wr_off]
  obtain ⟨σ1, p1, p2, p3⟩ := mo_restore_63_s d n 4 0 σ0 (by decide)
  obtain ⟨σ2, q1, q2, q3⟩ := mo_restore_88_s d n 7 0 σ1 (by decide)
  obtain ⟨σ3, r1, r2, r3, r4, r5, r6⟩ := mo_restore_114_s d n 8 0 σ2 (by decide)
  have z3 : ∀ c j, ¬ (84 ≤ c ∧ c ≤ 97) → σ3 c j = σ0 c j := fun c j hc => by
    rw [r6 _ _ (by omega) (by omega) (by omega) (by omega), q3 _ _ (by omega), p3 _ _ (by omega)]
  obtain ⟨σ4, s1, s2, s3, s4, s5, s6, s7, s8, s9⟩ := mo_restore_176_s d n 64 0 σ3 (by decide) (by rw [z3 _ _ (by omega), g82 _ (by omega)]; exact f3)
  have z4 : ∀ c j, ¬ (84 ≤ c ∧ c ≤ 97) → σ4 c j = σ0 c j := fun c j hc => by
    rw [s9 _ _ (by omega) (by omega) (by omega) (by omega) (by omega) (by omega) (by omega), z3 _ _ hc]
  obtain ⟨σ5, t1, t2, t3⟩ := mo_restore_279_s d n 29120 0 σ4 (by decide) (by rw [z4 _ _ (by omega), g82 _ (by omega)]; exact f4)
  have z5 : ∀ c j, ¬ (84 ≤ c ∧ c ≤ 97) → σ5 c j = σ0 c j := fun c j hc => by rw [t3 _ _ (by omega), z4 _ _ hc]
  have y4 : ∀ c j, c ≠ 96 → σ5 c j = σ4 c j := fun c j hc => by rw [t3 _ _ (by omega)]
  have y3 : ∀ c j, c ≠ 96 → ¬ (89 ≤ c ∧ c ≤ 95) → σ5 c j = σ3 c j := fun c j hc hd => by rw [y4 _ _ hc, s9 _ _ (by omega) (by omega) (by omega) (by omega) (by omega) (by omega) (by omega)]
  refine ⟨σ5, ?_, ?_, ⟨?_, ?_, ?_, ?_, ?_, ?_⟩, ?_, ?_, ?_, ?_, ?_⟩
  · have e := p1.trans (q1.trans (r1.trans (s1.trans t1)))
    rw [h0] at e
    rw [mo_restore_e, if_neg (by rw [h1]; decide)]
    simp (disch := first | omega | decide) only [mx_m, f2, mx_tn141, ix_141, mx_wr_ne, mx_wr_off]
    exact e
  · intro i j hi hj
    simp only [List.mem_cons, List.not_mem_nil, or_false, not_or, Prod.mk.injEq] at hi hj
    rw [z5 _ _ (by omega)]
    by_cases q : i = 82
    · subst q; exact g82 _ (by omega)
    · exact g0 _ _ q
  · rw [z5 _ _ (by omega), h0]; simp (disch := first | omega | decide) only [mx_wr_at, mx_wr_off]
  · rw [z5 _ _ (by omega), h0]; simp (disch := first | omega | decide) only [mx_wr_at, mx_wr_off]
  · rw [z5 _ _ (by omega), h0]; simp (disch := first | omega | decide) only [mx_wr_at, mx_wr_off]
  · rw [z5 _ _ (by omega), h0]; simp (disch := first | omega | decide) only [mx_wr_at, mx_wr_off]
  · rw [z5 _ _ (by omega), h0]; simp (disch := first | omega | decide) only [mx_wr_at, mx_wr_off]
  · rw [z5 _ _ (by omega), h0]; simp (disch := first | omega | decide) only [mx_wr_at, mx_wr_off]
  · intro j hj
    have p2' := p2 j (by omega) hj
    rw [Nat.zero_add] at p2'
    rw [y3 _ _ (by decide) (by decide), r6 _ _ (by omega) (by omega) (by omega) (by omega), q3 _ _ (by omega), p2', g0 _ _ (by decide)]
  · intro j hj
    have q2' := q2 j (by omega) hj
    rw [Nat.zero_add] at q2'
    rw [y3 _ _ (by decide) (by decide), r6 _ _ (by omega) (by omega) (by omega) (by omega), q2', p3 _ _ (by omega), g0 _ _ (by decide)]
  · intro j hj
    have w : ∀ k, σ2 141 k = σ 141 k := fun k => by rw [q3 _ _ (by omega), p3 _ _ (by omega), g0 _ _ (by decide)]
    have r2' := r2 j (by omega) hj
    have r3' := r3 j (by omega) hj
    have r4' := r4 j (by omega) hj
    have r5' := r5 j (by omega) hj
    rw [Nat.zero_add] at r2' r3' r4' r5'
    rw [y3 _ _ (by decide) (by decide), y3 _ _ (by decide) (by decide), y3 _ _ (by decide) (by decide), y3 _ _ (by decide) (by decide), r2', r3', r4', r5', w, w, w, w]
    exact ⟨rfl, rfl, rfl, rfl⟩
  · intro j hj
    have w : ∀ c k, ¬ (84 ≤ c ∧ c ≤ 97) → c ≠ 82 → σ3 c k = σ c k := fun c k hc hd => by rw [z3 _ _ hc, g0 _ _ hd]
    have s2' := s2 j (by omega) hj
    have s3' := s3 j (by omega) hj
    have s4' := s4 j (by omega) hj
    have s5' := s5 j (by omega) hj
    have s6' := s6 j (by omega) hj
    have s7' := s7 j (by omega) hj
    have s8' := s8 j (by omega) hj
    rw [Nat.zero_add] at s2' s3' s4' s5' s6' s7' s8'
    rw [y4 _ _ (by decide), y4 _ _ (by decide), y4 _ _ (by decide), y4 _ _ (by decide), y4 _ _ (by decide), y4 _ _ (by decide), y4 _ _ (by decide), s2', s3', s4', s5', s6', s7', s8', w _ _ (by decide) (by decide), w _ _ (by decide) (by decide), w _ _ (by decide) (by decide), w _ _ (by decide) (by decide), w _ _ (by decide) (by decide), w _ _ (by decide) (by decide), w _ _ (by decide) (by decide)]
    exact ⟨rfl, rfl, rfl, rfl, rfl, rfl, rfl⟩
  · intro j hj
    have t2' := t2 j (by omega) hj
    rw [Nat.zero_add] at t2'
    rw [t2', z4 _ _ (by omega), g0 _ _ (by decide)]
theorem restore_c (hI : mx_Inv t n σ) (ht : t < 1000) (d : Nat) : mx_C t n σ (fun σ n => pm_restore (d + 3) σ n) (fun σ n => mo_restore (d + 3) σ n) := by
  have hb := mx_I_b hI
  have hA := mx_I_A hI
  by_cases h0 : σ 0 11 = 0
  · rcases mx_I_9 hI with h | h
    · exact mx_C_ref hI 6 (-6) (by rw [pm_restore_e]; (try simp only [Int.toNat_natCast, mx_fin1]); simp (disch := first | assumption | omega | decide) only [↓if_pos, ↓if_neg, ↓mx_bi_p, ↓mx_bi_n, ↓mx_m, ↓mx_if_t, ↓mx_if_f1, ↓mx_bd (pm_isShelf_s ..), ↓mx_bd (mo_isShelf_s ..), ↓mx_bd (pm_isColumn_s ..), ↓mx_bd (mo_isFrom_s ..), ↓mx_bd (mo_isGroup_s ..), ↓mx_bd (mo_isExpression_s ..), ↓mx_bd (me_isTable_s ..), ↓mx_bd (me_isExpression_s ..), ↓mx_bd (me_isGroup_s ..), ↓mx_bd (pm_isPriced_s ..), ↓mx_bd (pm_isOrder_s ..), ↓mx_bd (pm_isPlace_s ..), ↓mx_bd (mo_isDemand_s ..), ↓mx_bd (pm_isAllowable_s ..), ↓mx_bd (mo_isWay_s ..), ↓mx_bd (pm_refuse_s ..), ↓mx_bd (pm_refuseFar_s ..), ↓mx_bd (mo_no_s ..), ↓mx_bd (mo_noTen_s ..), ↓ix_1, ↓ix_3, ↓ix_4, ↓ix_5, ↓ix_6, ↓ix_7, ↓ix_8, ↓ix_9, ↓ix_10, ↓ix_11, ↓ix_12, ↓ix_13, ↓ix_14, ↓ix_16, ↓ix_17, ↓ix_18, ↓ix_19, ↓ix_20, ↓ix_21, ↓ix_22, ↓ix_23, ↓ix_24, ↓ix_25, ↓ix_26, ↓ix_27, ↓ix_30, ↓ix_31, ↓ix_32, ↓ix_34, ↓ix_35, ↓ix_36, ↓ix_39, ↓ix_40, ↓ix_41, ↓ix_42, ↓ix_44, ↓ix_45, ↓ix_46, ↓ix_47, ↓ix_48, ↓ix_49, ↓ix_50, ↓ix_51, ↓ix_52, ↓ix_53, ↓ix_55, ↓ix_56, ↓ix_57, ↓ix_59, ↓ix_60, ↓ix_61, ↓ix_63, ↓ix_64, ↓ix_65, ↓ix_67, ↓ix_69, ↓ix_71, ↓ix_73, ↓ix_75, ↓ix_77, ↓ix_79, ↓ix_81, ↓ix_83, ↓ix_84, ↓ix_85, ↓ix_86, ↓ix_87, ↓ix_88, ↓ix_89, ↓ix_90, ↓ix_91, ↓ix_92, ↓ix_93, ↓ix_94, ↓ix_95, ↓ix_96, ↓ix_97, ↓ix_98, ↓ix_99, ↓ix_100, ↓ix_101, ↓ix_102, ↓ix_103, ↓ix_104, ↓ix_105, ↓ix_106, ↓ix_107, ↓ix_108, ↓ix_109, ↓ix_110, ↓ix_111, ↓ix_112, ↓ix_113, ↓ix_114, ↓ix_115, ↓ix_116, ↓ix_117, ↓ix_118, ↓ix_119, ↓ix_120, ↓ix_121, ↓ix_122, ↓ix_123, ↓ix_124, ↓ix_125, ↓ix_126, ↓ix_127, ↓ix_128, ↓ix_129, ↓ix_130, ↓ix_131, ↓ix_132, ↓ix_133, ↓ix_134, ↓ix_135, ↓ix_136, ↓ix_137, ↓ix_138, ↓ix_139, ↓ix_140, ↓ix_141, ↓ix_142, ↓ix_143, Option.bind_some, mx_wr_ne, mx_wr_at, mx_wr_off, mx_rf_ne, mx_no_ne, mx_if_t, Int.toNat_natCast, ix_1, ix_3, ix_4, ix_5, ix_6, ix_7, ix_8, ix_9, ix_10, ix_11, ix_12, ix_13, ix_14, ix_16, ix_17, ix_18, ix_19, ix_20, ix_21, ix_22, ix_23, ix_24, ix_25, ix_26, ix_27, ix_30, ix_31, ix_32, ix_34, ix_35, ix_36, ix_39, ix_40, ix_41, ix_42, ix_44, ix_45, ix_46, ix_47, ix_48, ix_49, ix_50, ix_51, ix_52, ix_53, ix_55, ix_56, ix_57, ix_59, ix_60, ix_61, ix_63, ix_64, ix_65, ix_67, ix_69, ix_71, ix_73, ix_75, ix_77, ix_79, ix_81, ix_83, ix_84, ix_85, ix_86, ix_87, ix_88, ix_89, ix_90, ix_91, ix_92, ix_93, ix_94, ix_95, ix_96, ix_97, ix_98, ix_99, ix_100, ix_101, ix_102, ix_103, ix_104, ix_105, ix_106, ix_107, ix_108, ix_109, ix_110, ix_111, ix_112, ix_113, ix_114, ix_115, ix_116, ix_117, ix_118, ix_119, ix_120, ix_121, ix_122, ix_123, ix_124, ix_125, ix_126, ix_127, ix_128, ix_129, ix_130, ix_131, ix_132, ix_133, ix_134, ix_135, ix_136, ix_137, ix_138, ix_139, ix_140, ix_141, ix_142, ix_143, true_and]; rfl) (by rw [mo_restore_e]; (try simp only [Int.toNat_natCast, mx_fin1]); simp (disch := first | assumption | omega | decide) only [↓if_pos, ↓if_neg, ↓mx_bi_p, ↓mx_bi_n, ↓mx_m, ↓mx_if_t, ↓mx_if_f1, ↓mx_bd (pm_isShelf_s ..), ↓mx_bd (mo_isShelf_s ..), ↓mx_bd (pm_isColumn_s ..), ↓mx_bd (mo_isFrom_s ..), ↓mx_bd (mo_isGroup_s ..), ↓mx_bd (mo_isExpression_s ..), ↓mx_bd (me_isTable_s ..), ↓mx_bd (me_isExpression_s ..), ↓mx_bd (me_isGroup_s ..), ↓mx_bd (pm_isPriced_s ..), ↓mx_bd (pm_isOrder_s ..), ↓mx_bd (pm_isPlace_s ..), ↓mx_bd (mo_isDemand_s ..), ↓mx_bd (pm_isAllowable_s ..), ↓mx_bd (mo_isWay_s ..), ↓mx_bd (pm_refuse_s ..), ↓mx_bd (pm_refuseFar_s ..), ↓mx_bd (mo_no_s ..), ↓mx_bd (mo_noTen_s ..), ↓ix_1, ↓ix_3, ↓ix_4, ↓ix_5, ↓ix_6, ↓ix_7, ↓ix_8, ↓ix_9, ↓ix_10, ↓ix_11, ↓ix_12, ↓ix_13, ↓ix_14, ↓ix_16, ↓ix_17, ↓ix_18, ↓ix_19, ↓ix_20, ↓ix_21, ↓ix_22, ↓ix_23, ↓ix_24, ↓ix_25, ↓ix_26, ↓ix_27, ↓ix_30, ↓ix_31, ↓ix_32, ↓ix_34, ↓ix_35, ↓ix_36, ↓ix_39, ↓ix_40, ↓ix_41, ↓ix_42, ↓ix_44, ↓ix_45, ↓ix_46, ↓ix_47, ↓ix_48, ↓ix_49, ↓ix_50, ↓ix_51, ↓ix_52, ↓ix_53, ↓ix_55, ↓ix_56, ↓ix_57, ↓ix_59, ↓ix_60, ↓ix_61, ↓ix_63, ↓ix_64, ↓ix_65, ↓ix_67, ↓ix_69, ↓ix_71, ↓ix_73, ↓ix_75, ↓ix_77, ↓ix_79, ↓ix_81, ↓ix_83, ↓ix_84, ↓ix_85, ↓ix_86, ↓ix_87, ↓ix_88, ↓ix_89, ↓ix_90, ↓ix_91, ↓ix_92, ↓ix_93, ↓ix_94, ↓ix_95, ↓ix_96, ↓ix_97, ↓ix_98, ↓ix_99, ↓ix_100, ↓ix_101, ↓ix_102, ↓ix_103, ↓ix_104, ↓ix_105, ↓ix_106, ↓ix_107, ↓ix_108, ↓ix_109, ↓ix_110, ↓ix_111, ↓ix_112, ↓ix_113, ↓ix_114, ↓ix_115, ↓ix_116, ↓ix_117, ↓ix_118, ↓ix_119, ↓ix_120, ↓ix_121, ↓ix_122, ↓ix_123, ↓ix_124, ↓ix_125, ↓ix_126, ↓ix_127, ↓ix_128, ↓ix_129, ↓ix_130, ↓ix_131, ↓ix_132, ↓ix_133, ↓ix_134, ↓ix_135, ↓ix_136, ↓ix_137, ↓ix_138, ↓ix_139, ↓ix_140, ↓ix_141, ↓ix_142, ↓ix_143, Option.bind_some, mx_wr_ne, mx_wr_at, mx_wr_off, mx_rf_ne, mx_no_ne, mx_if_t, Int.toNat_natCast, ix_1, ix_3, ix_4, ix_5, ix_6, ix_7, ix_8, ix_9, ix_10, ix_11, ix_12, ix_13, ix_14, ix_16, ix_17, ix_18, ix_19, ix_20, ix_21, ix_22, ix_23, ix_24, ix_25, ix_26, ix_27, ix_30, ix_31, ix_32, ix_34, ix_35, ix_36, ix_39, ix_40, ix_41, ix_42, ix_44, ix_45, ix_46, ix_47, ix_48, ix_49, ix_50, ix_51, ix_52, ix_53, ix_55, ix_56, ix_57, ix_59, ix_60, ix_61, ix_63, ix_64, ix_65, ix_67, ix_69, ix_71, ix_73, ix_75, ix_77, ix_79, ix_81, ix_83, ix_84, ix_85, ix_86, ix_87, ix_88, ix_89, ix_90, ix_91, ix_92, ix_93, ix_94, ix_95, ix_96, ix_97, ix_98, ix_99, ix_100, ix_101, ix_102, ix_103, ix_104, ix_105, ix_106, ix_107, ix_108, ix_109, ix_110, ix_111, ix_112, ix_113, ix_114, ix_115, ix_116, ix_117, ix_118, ix_119, ix_120, ix_121, ix_122, ix_123, ix_124, ix_125, ix_126, ix_127, ix_128, ix_129, ix_130, ix_131, ix_132, ix_133, ix_134, ix_135, ix_136, ix_137, ix_138, ix_139, ix_140, ix_141, ix_142, ix_143, h.2.1]; rfl)
    · rw [h.1] at h0; exact absurd h0 (by decide)
  · obtain ⟨h3, hK, h1, h2, f2, f3, f4, f5, f6⟩ := mx_I9_o (mx_I_9 hI) h0
    obtain ⟨σ1, p1, b1, v17, v0, v3, v9, v15, v16, c1, c2, c3, c4, c5, c6, c7, c8, c9, c10, c11, c12⟩ := me_becomeLikeA_s (σ := σ) (n := n) (d + 1)
    obtain ⟨σ2, r1, r2, r3, r4⟩ := pm_restore_27_s (n := n) (d + 1) 8 0 σ1 (by decide)
    have k1 : ∀ i j, ¬ (3 ≤ i ∧ i ≤ 14) → i ≠ 2 → σ1 i j = σ i j := fun i j a1 a2 => b1 i j (by simp only [List.mem_cons, List.not_mem_nil, or_false, not_or]; omega) (by simp only [List.mem_cons, List.not_mem_nil, or_false, not_or, Prod.mk.injEq]; omega)
    have k2 : ∀ i j, (i < 66 ∨ 81 ≤ i) → σ2 i j = σ1 i j := fun i j a1 => congrFun (r2 i (by simp only [List.mem_cons, List.not_mem_nil, or_false, not_or]; omega)) j
    have z1 : pm_restore (d + 3) σ n = some (σ 15 3, σ2, n) := by
      rw [pm_restore_e, if_neg h0, p1, Option.bind_some]
      rw [← v3]
      exact r1
    have k12 : ∀ i j, ¬ (3 ≤ i ∧ i ≤ 14) → i ≠ 2 → (i < 66 ∨ 81 ≤ i) → σ2 i j = σ i j := fun i j a1 a2 a3 => by rw [k2 i j a3, k1 i j a1 a2]
    obtain ⟨σ3, s1, s2, ⟨s30, s31, s32, s33, s34, s35⟩, s4, s5, s6, s7, s8⟩ := mo_restore_s (σ := σ2) (n := n) (d + 2) (by rw [k12 _ _ (by omega) (by omega) (by omega)]; exact h2) (by rw [k12 _ _ (by omega) (by omega) (by omega)]; exact f2) (by rw [k12 _ _ (by omega) (by omega) (by omega)]; exact f3) (by rw [k12 _ _ (by omega) (by omega) (by omega)]; exact f4)
    obtain ⟨σ4, u1, u2, u3, u4⟩ := mo_restore_308_s (n := n) (d + 2) 8 0 σ3 (by decide)
    have k3 : ∀ i j, ¬ (84 ≤ i ∧ i ≤ 97) → i ≠ 82 → σ3 i j = σ2 i j := fun i j a1 a2 => s2 i j (by simp only [List.mem_cons, List.not_mem_nil, or_false, not_or]; omega) (by simp only [List.mem_cons, List.not_mem_nil, or_false, not_or, Prod.mk.injEq]; omega)
    have k4 : ∀ i j, i ≠ 98 → σ4 i j = σ3 i j := fun i j a1 => congrFun (u2 i (by simp only [List.mem_cons, List.not_mem_nil, or_false]; exact a1)) j
    have q21 : ∀ j, σ2 141 j = σ 141 j := fun j => k12 _ _ (by omega) (by omega) (by omega)
    have z2 : mo_restore (d + 3) σ2 n = some (σ 15 3, σ4, n) := by
      rw [s1]
      have := u1
      rw [s31, q21] at this
      rw [← hK.2.1.2.2.1]
      exact this
    have m2 : ∀ i j, i < 15 → σ4 i j = σ1 i j := fun i j a1 => by rw [k4 _ _ (by omega), k3 _ _ (by omega) (by omega), k2 _ _ (by omega)]
    have m4 : ∀ j, j < 29120 → σ4 96 j = σ 143 j := fun j hj => by
      rw [k4 _ _ (by omega), s8 j hj, k12 _ _ (by omega) (by omega) (by omega)]
      exact mx_mod2 (hK.2.2.2.1.1 j hj)
    have hKc : mx_Kc σ4 := by
      show mx_K (σ4 2 0) (σ4 2 3) (σ4 2 9) _ _ _ _ _ _ _ _ _ _ _ _ (σ4 82 0) (σ4 82 1) (σ4 82 2) _ _ _ _ _ _ _ _ _ _ _ _ _ _ (σ4 82 3)
      rw [m2 2 0 (by decide), m2 2 3 (by decide), m2 2 9 (by decide), k4 82 0 (by decide), k4 82 1 (by decide), k4 82 2 (by decide), k4 82 3 (by decide), v0, v3, v9, s30, s31, s32, s33, q21, q21, q21, q21]
      refine mx_K_cong hK (fun i hi => (m2 3 i (by decide)).trans (c1 i hi)) (fun i hi => (m2 4 i (by decide)).trans (c2 i hi)) (fun i hi => (m2 5 i (by decide)).trans (c3 i hi)) (fun i hi => (m2 6 i (by decide)).trans (c4 i hi)) (fun i hi => (m2 7 i (by decide)).trans (c5 i hi)) (fun i hi => (m2 8 i (by decide)).trans (c6 i hi)) (fun i hi => (m2 9 i (by decide)).trans (c7 i hi)) (fun i hi => (m2 10 i (by decide)).trans (c8 i hi)) (fun i hi => (m2 11 i (by decide)).trans (c9 i hi)) (fun i hi => (m2 12 i (by decide)).trans (c10 i hi)) (fun i hi => (m2 13 i (by decide)).trans (c11 i hi)) (fun i hi => (m2 14 i (by decide)).trans (c12 i hi))
        (fun i hi => ?_) (fun i hi => ?_) (fun i hi => ?_) (fun i hi => ?_) (fun i hi => ?_) (fun i hi => ?_) (fun i hi => ?_) (fun i hi => ?_) (fun i hi => ?_) (fun i hi => ?_) (fun i hi => ?_) (fun i hi => ?_) m4 (fun i hi => ?_)
      · rw [k4 _ _ (by decide), (s6 i hi).1]; exact q21 _
      · rw [k4 _ _ (by decide), (s6 i hi).2.1]; exact q21 _
      · rw [k4 _ _ (by decide), (s6 i hi).2.2.1]; exact q21 _
      · rw [k4 _ _ (by decide), (s6 i hi).2.2.2]; exact q21 _
      · rw [k4 _ _ (by decide), s4 i hi]; exact q21 _
      · rw [k4 _ _ (by decide), (s7 i hi).1]; exact q21 _
      · rw [k4 _ _ (by decide), (s7 i hi).2.1]; exact q21 _
      · rw [k4 _ _ (by decide), (s7 i hi).2.2.1]; exact q21 _
      · rw [k4 _ _ (by decide), (s7 i hi).2.2.2.1]; exact q21 _
      · rw [k4 _ _ (by decide), (s7 i hi).2.2.2.2.1]; exact q21 _
      · rw [k4 _ _ (by decide), (s7 i hi).2.2.2.2.2.1]; exact q21 _
      · have hm := hK.1.2.1
        have := (hK.2.1.1 i hi).2.2.1
        rw [k4 _ _ (by decide), (s7 i (by omega)).2.2.2.2.2.2, k12 _ _ (by omega) (by omega) (by omega), this]
        split <;> rfl
      · rw [k4 _ _ (by decide), s5 i hi]; exact q21 _
    have g : mx_Fq [3, 4, 5, 6, 7, 8, 9, 10, 11, 12, 13, 14, 66, 68, 70, 72, 74, 76, 78, 80, 84, 85, 86, 87, 88, 89, 90, 91, 92, 93, 94, 95, 96, 97, 98] [(2, 0), (2, 3), (2, 9), (2, 15), (2, 16), (2, 17), (82, 0), (82, 1), (82, 2), (82, 3), (82, 4), (82, 5)] σ σ4 :=
      mx_fq_tr (mx_fq_up b1 rfl) (mx_fq_tr (mx_fq_up (mx_fq_of r2) rfl) (mx_fq_tr (mx_fq_up s2 rfl) (mx_fq_up (mx_fq_of u2) rfl)))
    refine ⟨_, _, σ4, n, z1, z2, ?_⟩
    refine mx_Inv_by hI g (h1 := Or.inr (mx_K_I12 hKc).1) (h2 := Or.inr (mx_K_I12 hKc).2) (h3 := Or.inr ⟨?_, ?_⟩) (h6 := Or.inr fun s hs => ?_) (hA := Or.inr ?_)
    · rw [k4 _ _ (by decide), s34, q21, m2 _ _ (by decide), v15]; exact f5
    · rw [k4 _ _ (by decide), s35, q21, m2 _ _ (by decide), v16]; exact f6
    · have a := mx_I_6 hI s hs
      have e3 : ∀ j, σ1 (66 + 2 * s) j = σ (66 + 2 * s) j := fun j => k1 _ _ (by omega) (by omega)
      have e4 : ∀ j, σ4 (66 + 2 * s) j = σ2 (66 + 2 * s) j := fun j => by rw [k4 _ _ (by omega), k3 _ _ (by omega) (by omega)]
      have e5 : ∀ j, σ4 (67 + 2 * s) j = σ (67 + 2 * s) j := fun j => by rw [k4 _ _ (by omega), k3 _ _ (by omega) (by omega), congrFun (r2 (67 + 2 * s) (by simp only [List.mem_cons, List.not_mem_nil, or_false, not_or]; omega)) j, k1 _ _ (by omega) (by omega)]
      have e6 : ∀ c j, 98 ≤ c → c ≤ 102 → σ3 c j = σ c j := fun c j a1 a2 => by rw [k3 _ _ (by omega) (by omega), k12 _ _ (by omega) (by omega) (by omega)]
      have e7 : ∀ c j, 99 ≤ c → c ≤ 102 → σ4 c j = σ c j := fun c j a1 a2 => by rw [k4 _ _ (by omega), e6 c j (by omega) a2]
      have e8 := u4 s (by omega) hs
      rw [e6 98 s (by decide) (by decide), e6 101 s (by decide) (by decide), s31, q21, hK.2.1.2.2.1] at e8
      obtain ⟨d1, d2⟩ := r4 s (by omega) hs
      have hm : σ1 2 3 = σ 15 3 := v3
      unfold mx_bad at d1 d2
      rw [e3 3, hm] at d1 d2
      unfold mx_I6s at a ⊢
      rw [m2 2 3 (by decide), hm, e4, e4, e4, e8, e7 99 s (by decide) (by decide), e7 100 s (by decide) (by decide), e7 101 s (by decide) (by decide)]
      rcases a with ⟨a1, a2, a3, a4⟩ | ⟨a1, a2, a3, a4, a5, a6, a7⟩ | ⟨a1, a2, a3, a4, a5, a6⟩
      · have := d2 (fun b => b.1 a3)
        rw [this, this, this, e3, e3, e3, if_neg (by omega)]
        exact Or.inl ⟨a1, a2, a3, a4⟩
      · have := d2 (fun b => b.1 a4)
        rw [this, this, this, e3, e3, e3, if_neg (by omega)]
        refine Or.inr (Or.inl ⟨a1, a2, a3, a4, a5, a6, fun i hi => ?_⟩)
        rw [e5, e7 102 _ (by decide) (by decide)]; exact a7 i hi
      · by_cases q : σ 101 s < σ 15 3
        · have := d2 (fun b => b.2 ⟨by omega, by omega⟩)
          rw [this, this, this, e3, e3, e3, if_neg (by omega)]
          exact Or.inr (Or.inr ⟨a1, a2, a3, a4, a5, q⟩)
        · have := d1 ⟨by omega, by omega⟩
          rw [this.1, this.2.1, this.2.2, if_pos ⟨a1, q⟩]
          exact Or.inl ⟨rfl, rfl, rfl, rfl⟩
    · have w := hA.1
      have e17 : σ4 2 17 = σ 2 17 + 1 := by rw [m2 _ _ (by decide), v17]; exact mx_w_id (by omega) (by omega)
      exact mx_IA_new hA (by rw [e17]; omega) (by rw [e17]; omega) (g 29 4 (by decide) (by decide)) (g 33 6 (by decide) (by decide)) (g 29 2 (by decide) (by decide)) (g 29 3 (by decide) (by decide))
end
