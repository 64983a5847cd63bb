/-! PLAN: the call -/
section
variable {t n : Nat} {σ μ : am_M} {al : Int} {c : Nat → Int}
theorem mx_no_fq {C : List Nat} {P : List (Nat × Nat)} {τ : am_M} {k : Nat} (h : mx_Fq C P σ τ) (hc : 83 ∉ C) (hp : (83, k) ∉ P) : mx_Fq C P (mx_no σ k) (mx_no τ k) := fun i j a b => by
  unfold mx_no
  by_cases q : i = 83
  · subst q
    by_cases r : j = k
    · subst r
      rw [mx_wr_at, mx_wr_at, h 83 j a b]
    · rw [mx_wr_off r, mx_wr_off r]; exact h 83 j a b
  · rw [mx_wr_ne q, mx_wr_ne q]; exact h i j a b
/-- inputs to come, over the nodes of a demand -/
theorem mx_nd_nds (hg : mx_gd μ) (hs : mx_sol μ al c) (k : Nat → Int) : ∀ (C d a : Nat), c d ≤ C → mx_dd μ d → c d ≤ 1000000000000 → (∀ i x, (mx_nds μ al c d)[i]? = some x → k (a + i) = x.2.1) →
    mx_nd k (a + (mx_nds μ al c d).length) = mx_nd k a - 1 ∧ ∀ i, i < (mx_nds μ al c d).length → mx_nd k a ≤ mx_nd k (a + i) := by
  intro C
  induction C with
  | zero =>
    intro d a hC hd hc hk
    have := (hs d hd).1.1
    omega
  | succ C ih =>
    intro d a hC hd hc hk
    obtain ⟨w, w1, w2, w3, w4, w5⟩ := mx_pick1_s hg hs hd hc
    have en := mx_nds_e hg hs hd hc w1
    have len : (mx_nds μ al c d).length = 1 + (mx_nds μ al c w.2.2.1).length + (mx_nds μ al c w.2.2.2.1).length := by rw [en, List.length_cons, List.length_append]; omega
    have k0 : k a = w.1 := hk 0 (d, w) (by rw [en]; rfl)
    have s1 : mx_nd k (a + 1) = mx_nd k a - 1 + mx_ar w.1 := by rw [← k0]; rfl
    have one : ∀ v, (v = w.2.2.1 ∨ v = w.2.2.2.1) → ∀ b : Nat, (∀ i x, (mx_nds μ al c v)[i]? = some x → k (b + i) = x.2.1) → (v = -1 → (mx_nds μ al c v).length = 0) ∧ (v ≠ -1 → mx_nd k (b + (mx_nds μ al c v).length) = mx_nd k b - 1 ∧ ∀ i, i < (mx_nds μ al c v).length → mx_nd k b ≤ mx_nd k (b + i)) := fun v hv b hb => by
      refine ⟨fun z => by rw [z]; rfl, fun nv => ?_⟩
      obtain ⟨j, j1, j2, j3, j4, j5⟩ := w5 v hv nv
      rw [j1] at hb ⊢
      exact ih j b (by omega) j2 (by omega) hb
    have hA := one _ (Or.inl rfl) (a + 1) (fun i x hx => by
      have := hk (i + 1) x (by
        rw [en, List.getElem?_cons_succ, List.getElem?_append_left (List.getElem?_eq_some_iff.mp hx).1]
        exact hx)
      rw [← this]; congr 1; omega)
    have hB := one _ (Or.inr rfl) (a + 1 + (mx_nds μ al c w.2.2.1).length) (fun i x hx => by
      have := hk (i + (mx_nds μ al c w.2.2.1).length + 1) x (by
        rw [en, List.getElem?_cons_succ, List.getElem?_append_right (by omega), Nat.add_sub_cancel]
        exact hx)
      rw [← this]; congr 1; omega)
    obtain ⟨A0, A1⟩ := hA
    obtain ⟨B0, B1⟩ := hB
    generalize (mx_nds μ al c w.2.2.1).length = LA at *
    generalize (mx_nds μ al c w.2.2.2.1).length = LB at *
    rw [len]
    rcases mx_ar_w hg hd w2 with ⟨q, q1, q2⟩ | ⟨q, q1, q2⟩ | ⟨q, q1, q2⟩
    · have a0 := A0 q1
      have b0 := B0 q2
      subst a0 b0
      refine ⟨by rw [show a + (1 + 0 + 0) = a + 1 by omega, s1, q]; omega, fun i hi => ?_⟩
      rw [show i = 0 by omega]
      exact Int.le_refl _
    · have b0 := B0 q2
      subst b0
      obtain ⟨a1, a2⟩ := A1 q1
      refine ⟨by rw [show a + (1 + LA + 0) = a + 1 + LA by omega, a1, s1, q]; omega, fun i hi => ?_⟩
      by_cases z : i = 0
      · rw [z]; exact Int.le_refl _
      · have := a2 (i - 1) (by omega)
        rw [show a + 1 + (i - 1) = a + i by omega] at this
        omega
    · obtain ⟨a1, a2⟩ := A1 q1
      obtain ⟨b1, b2⟩ := B1 q2
      refine ⟨by rw [show a + (1 + LA + LB) = a + 1 + LA + LB by omega, b1, a1, s1, q]; omega, fun i hi => ?_⟩
      by_cases z : i = 0
      · rw [z]; exact Int.le_refl _
      · by_cases y : i - 1 < LA
        · have := a2 (i - 1) y
          rw [show a + 1 + (i - 1) = a + i by omega] at this
          omega
        · have := b2 (i - 1 - LA) (by omega)
          rw [show a + 1 + LA + (i - 1 - LA) = a + i by omega] at this
          omega
/-- what the reference copies -/
abbrev mx_C115 : List Nat := [115, 116, 117, 118, 119, 120, 121, 122, 124]
theorem mo_plan_99_s (dp M : Nat) (hM : M ≤ 120) : ∀ (k i : Nat) (τ : am_M), i + k = M → τ 82 8 = M →
    ∃ τ' : am_M, mo_plan_99 dp i τ n = some ((M : Int), τ', n) ∧ mx_Fq mx_C115 [] τ τ' ∧ (∀ a j, j < i → τ' a j = τ a j) ∧ ∀ j, i ≤ j → j < M → τ' 115 j = τ 125 j ∧ τ' 116 j = τ 126 j ∧ τ' 117 j = τ 127 j ∧ τ' 118 j = τ 128 j ∧ τ' 119 j = τ 129 j ∧ τ' 120 j = τ 130 j ∧ τ' 121 j = τ 131 j ∧ τ' 122 j = τ 132 j ∧ τ' 124 j = τ 133 j := by
  intro k
  induction k with
  | zero =>
    intro i τ hi h8
    refine ⟨τ, ?_, mx_fq_rf, fun _ _ _ => rfl, fun j q1 q2 => by omega⟩
    rw [mo_plan_99_e, if_neg (by rw [h8]; omega), h8]
  | succ k ih =>
    intro i τ hi h8
    have I : (0 : Int) ≤ (i : Int) ∧ (i : Int) < 121 := ⟨by omega, by omega⟩
    obtain ⟨τ1, h1⟩ : ∃ τ1, τ1 = am_wr (am_wr (am_wr (am_wr (am_wr (am_wr (am_wr (am_wr (am_wr τ 115 i (τ 125 i)) 116 i (τ 126 i)) 117 i (τ 127 i)) 118 i (τ 128 i)) 119 i (τ 129 i)) 120 i (τ 130 i)) 121 i (τ 131 i)) 122 i (τ 132 i)) 124 i (τ 133 i) := ⟨_, rfl⟩
    have F : mx_Fq mx_C115 [] τ τ1 := by
      rw [h1]
      exact mx_fq_wr (mx_fq_wr (mx_fq_wr (mx_fq_wr (mx_fq_wr (mx_fq_wr (mx_fq_wr (mx_fq_wr (mx_fq_wr mx_fq_rf rfl) rfl) rfl) rfl) rfl) rfl) rfl) rfl) rfl
    have O : ∀ a j, j ≠ i → τ1 a j = τ a j := fun a j hj => by
      rw [h1]
      unfold am_wr
      rw [if_neg (fun q => hj q.2), if_neg (fun q => hj q.2), if_neg (fun q => hj q.2), if_neg (fun q => hj q.2), if_neg (fun q => hj q.2), if_neg (fun q => hj q.2), if_neg (fun q => hj q.2), if_neg (fun q => hj q.2), if_neg (fun q => hj q.2)]
    have V : τ1 115 i = τ 125 i ∧ τ1 116 i = τ 126 i ∧ τ1 117 i = τ 127 i ∧ τ1 118 i = τ 128 i ∧ τ1 119 i = τ 129 i ∧ τ1 120 i = τ 130 i ∧ τ1 121 i = τ 131 i ∧ τ1 122 i = τ 132 i ∧ τ1 124 i = τ 133 i := by
      rw [h1]
      refine ⟨?_, ?_, ?_, ?_, ?_, ?_, ?_, ?_, ?_⟩ <;> simp (disch := decide) only [mx_wr_ne, mx_wr_at]
    obtain ⟨τ', a1, a2, a3, a4⟩ := ih (i + 1) τ1 (by omega) (by rw [F 82 8 (by decide) (by simp)]; exact h8)
    refine ⟨τ', ?_, mx_fq_tr F a2, fun a j hj => (a3 a j (by omega)).trans (O a j (by omega)), fun j q1 q2 => ?_⟩
    · rw [mo_plan_99_e, if_pos (by rw [h8]; omega), mx_w_nat (by omega)]
      simp (disch := first | decide | omega) only [mx_m, ix_125, ix_126, ix_127, ix_128, ix_129, ix_130, ix_131, ix_132, ix_133, ix_115, ix_116, ix_117, ix_118, ix_119, ix_120, ix_121, ix_122, ix_124, Int.toNat_natCast, mx_wr_ne]
      rw [← h1]
      exact a1
    · have K : ∀ a, 125 ≤ a → τ1 a j = τ a j := fun a q => F a j (by simp only [List.mem_cons, List.not_mem_nil, or_false, not_or]; omega) (by simp)
      by_cases z : j = i
      · subst z
        obtain ⟨v1, v2, v3, v4, v5, v6, v7, v8, v9⟩ := V
        rw [a3 115 j (by omega), a3 116 j (by omega), a3 117 j (by omega), a3 118 j (by omega), a3 119 j (by omega), a3 120 j (by omega), a3 121 j (by omega), a3 122 j (by omega), a3 124 j (by omega)]
        exact ⟨v1, v2, v3, v4, v5, v6, v7, v8, v9⟩
      · have := a4 j (by omega) q2
        rw [K 125 (by decide), K 126 (by decide), K 127 (by decide), K 128 (by decide), K 129 (by decide), K 130 (by decide), K 131 (by decide), K 132 (by decide), K 133 (by decide)] at this
        exact this
/-- the reference's call, where a demand is asked for -/
theorem mo_plan_r (hg : mx_gd μ) {ρ : am_M} (hr : mx_rl μ ρ) (hal : ρ 82 4 = al) (hs : mx_sol μ al c) (d : Nat) {v1 v2 v3 : Int} (h1 : 0 ≤ v1 ∧ v1 < μ 2 9) (h2 : -1 ≤ v2 ∧ v2 ≤ 3) (h3 : -1 ≤ v3 ∧ v3 ≤ 4) {D : Nat} (d1 : (μ 10 v1.toNat) * 30 + (v2 + 1) * 6 + v3 + 1 = D) (d2 : mx_dd μ D) (r0 : 0 ≤ μ 10 v1.toNat ∧ μ 10 v1.toNat < μ 2 9) :
    (1000000000000 < c D → ∃ τ : am_M, mo_plan (d + 150) v1 v2 v3 ρ n = some (-5, mx_no τ 5, n) ∧ mx_Fq mx_Cx mx_Px ρ τ) ∧
    (c D ≤ 1000000000000 → 120 < (mx_nds μ al c D).length → ∃ τ : am_M, mo_plan (d + 150) v1 v2 v3 ρ n = some (-7, mx_no τ 7, n) ∧ mx_Fq mx_Cx mx_Px ρ τ) ∧
    (c D ≤ 1000000000000 → (mx_nds μ al c D).length ≤ 120 → ∃ τ : am_M, mo_plan (d + 150) v1 v2 v3 ρ n = some ((((mx_nds μ al c D).length : Nat) : Int), τ, n) ∧ mx_Fq (mx_C115 ++ mx_Cx) ((82, 8) :: mx_Px) ρ τ ∧ τ 82 8 = ((mx_nds μ al c D).length : Nat) ∧
      ∀ i x, (mx_nds μ al c D)[i]? = some x → τ 115 i = x.2.1 ∧ τ 116 i = mx_own μ x.1 x.2 ∧ τ 117 i = ((x.1 / 30 : Nat) : Int) ∧ τ 118 i = ((x.1 % 30 / 6 : Nat) : Int) - 1 ∧ τ 119 i = ((x.1 % 6 : Nat) : Int) - 1 ∧ τ 120 i = x.2.2.2.2.2.1 ∧ τ 121 i = ((mx_nds μ al c x.1).length : Nat) ∧ τ 122 i = mx_hlf μ x.2 ∧ τ 124 i = c x.1) := by
  have h64 := hg.2.1
  have w2 := hg.1.2.1
  have hD := mx_dd_lt hg d2
  obtain ⟨τ1, t1, t2, t3, t4, t5⟩ := mo_costs_q (n := n) hg hr hal hs (d + 136)
  have I : (0 : Int) ≤ (D : Int) ∧ (D : Int) < 1920 := ⟨by omega, by omega⟩
  have r1k : 0 ≤ μ 10 v1.toNat ∧ μ 10 v1.toNat < 1000 := ⟨r0.1, by omega⟩
  have g144 : μ 2 9 ≤ 144 := by omega
  have h23 : (-1 ≤ v2 ∧ v2 ≤ 3) ∧ -1 ≤ v3 ∧ v3 ≤ 4 := ⟨h2, h3⟩
  have h1' : 0 ≤ v1 ∧ v1 < ρ 82 2 := by rw [hr.1.2.2.2.1]; exact h1
  have cd := t5 D d2
  have go : mo_plan (d + 150) v1 v2 v3 ρ n = if 1000000000000 < τ1 107 D then some (-5, mx_no τ1 5, n) else (mo_plans (d + 149) D (am_wr τ1 82 52 0) n).bind fun q6 => if q6.1 = 0 then ((mo_no (d + 149) (-7) q6.2.1 q6.2.2).bind fun q7 => some (q7.1, q7.2.1, q7.2.2)) else am_m (am_wr q6.2.1 82 8 (q6.2.1 82 52)) fun σ2 => mo_plan_99 (d + 149) 0 σ2 q6.2.2 := by
    rw [mo_plan_e, mo_isGroup_s, Option.bind_some]
    dsimp only
    rw [mx_bi_p h1', mo_isDemand_s, Option.bind_some]
    dsimp only
    rw [mx_bi_p h23, show mo_costs (d + 149) ρ n = _ from t1, Option.bind_some]
    dsimp only
    rw [mo_root_s (d + 148) τ1 n t3.1.1.2.1 g144 v1 h1.1 h1.2, Option.bind_some]
    dsimp only
    rw [mo_demand_s _ _ _ _ _ _ r1k h2 h3, Option.bind_some, d1]
    dsimp only
    rw [ix_107 I.1 I.2, Int.toNat_natCast]
    by_cases z : 1000000000000 < τ1 107 D
    · rw [if_pos (mx_cmpG.mpr z), if_pos z, mo_no_s _ _ _ _ (by decide), Option.bind_some]; rfl
    · rw [if_neg (fun a => z (mx_cmpG.mp a)), if_neg z, mx_m]
  have fr1 : mx_Fq mx_Cx mx_Px ρ τ1 := mx_fq_up t2 rfl
  have al1 : τ1 82 4 = al := by rw [t2 82 4 (by decide) (by decide)]; exact hal
  refine ⟨fun hc => ?_, fun hc hl => ?_, fun hc hl => ?_⟩
  · refine ⟨τ1, ?_, fr1⟩
    rw [go, if_pos]
    unfold mx_cap at cd
    split at cd <;> omega
  · have nz : ¬ 1000000000000 < τ1 107 D := by
      unfold mx_cap at cd
      split at cd <;> omega
    have F1 : mx_Fq mx_Cn mx_Pn τ1 (am_wr τ1 82 52 0) := mx_fq_wr mx_fq_rf rfl
    have p1 : mx_prd μ (am_wr τ1 82 52 0) al c := mx_prd_fr ⟨t3, al1, t4, t5⟩ F1
    obtain ⟨τ2, b, a1, a2, a3, a4⟩ := mo_plans_s (n := n) hg hs (c D).toNat (d + 149) 0 D (am_wr τ1 82 52 0) (by omega) d2 hc p1 (by rw [mx_wr_at]; rfl) (by decide) (by omega)
    rcases a4 with ⟨q, q1⟩ | ⟨q, q1, -⟩
    · refine ⟨τ2, ?_, mx_fq_tr fr1 (mx_fq_tr (mx_fq_up F1 rfl) (mx_fq_up a2 rfl))⟩
      rw [go, if_neg nz, a1, Option.bind_some]
      dsimp only
      rw [if_pos q, mo_no_s _ _ _ _ (by decide), Option.bind_some]; rfl
    · omega
  · have nz : ¬ 1000000000000 < τ1 107 D := by
      unfold mx_cap at cd
      split at cd <;> omega
    have F1 : mx_Fq mx_Cn mx_Pn τ1 (am_wr τ1 82 52 0) := mx_fq_wr mx_fq_rf rfl
    have p1 : mx_prd μ (am_wr τ1 82 52 0) al c := mx_prd_fr ⟨t3, al1, t4, t5⟩ F1
    obtain ⟨τ2, b, a1, a2, a3, a4⟩ := mo_plans_s (n := n) hg hs (c D).toNat (d + 149) 0 D (am_wr τ1 82 52 0) (by omega) d2 hc p1 (by rw [mx_wr_at]; rfl) (by decide) (by omega)
    rcases a4 with ⟨q, q1⟩ | ⟨q, q1, q2, q3⟩
    · omega
    · rw [Nat.zero_add] at q2
      obtain ⟨τ3, hτ3⟩ : ∃ τ3, τ3 = am_wr τ2 82 8 ((mx_nds μ al c D).length : Nat) := ⟨_, rfl⟩
      obtain ⟨τ4, b1, b2, b3, b4⟩ := mo_plan_99_s (n := n) (d + 149) (mx_nds μ al c D).length hl (mx_nds μ al c D).length 0 τ3 (by omega) (by rw [hτ3, mx_wr_at])
      have F3 : mx_Fq mx_C115 ((82, 8) :: mx_Px) τ2 τ3 := by rw [hτ3]; exact mx_fq_wr mx_fq_rf rfl
      refine ⟨τ4, ?_, mx_fq_tr (mx_fq_up fr1 rfl) (mx_fq_tr (mx_fq_up F1 rfl) (mx_fq_tr (mx_fq_up a2 rfl) (mx_fq_tr (mx_fq_up F3 rfl) (mx_fq_up b2 rfl)))), ?_, fun i x hx => ?_⟩
      · rw [go, if_neg nz, a1, Option.bind_some]
        dsimp only
        rw [if_neg (by omega), mx_m, q2, ← hτ3]
        exact b1
      · rw [b2 82 8 (by decide) (by simp), hτ3, mx_wr_at]
      · have hx' := (List.getElem?_eq_some_iff.mp hx).1
        obtain ⟨z1, z2⟩ := q3 i x hx
        rw [Nat.zero_add] at z1 z2
        obtain ⟨y1, y2, y3, y4, y5, y6, y7, y8, y9⟩ := b4 i (Nat.zero_le _) hx'
        unfold mx_nr at z1
        have K : ∀ a, a ≠ 82 → τ3 a = τ2 a := fun a q => by rw [hτ3, mx_wr_ne q]
        rw [y1, y2, y3, y4, y5, y6, y7, y8, y9, K 125 (by decide), K 126 (by decide), K 127 (by decide), K 128 (by decide), K 129 (by decide), K 130 (by decide), K 131 (by decide), K 132 (by decide), K 133 (by decide), z2]
        obtain ⟨z3, z4, z5, z6, z7, z8, z9, z10⟩ := z1
        exact ⟨z3, z4, z5, z6, z7, z8, rfl, z9, z10⟩
end
