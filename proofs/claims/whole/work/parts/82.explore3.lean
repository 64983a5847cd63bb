section
variable {t n : Nat} {σ μ : am_M} {r e f : Nat}
theorem mx_nn_mu {μ' : am_M} (hc : ∀ i j, 2 ≤ i → i ≤ 9 → (i = 2 → j = 3) → μ' i j = μ i j) : mx_nn μ' r e f = mx_nn μ r e f := by
  have c : ∀ i, 3 ≤ i → i ≤ 9 → μ' i = μ i := fun i a b => funext fun j => hc i j (by omega) b (by omega)
  have h1 := mx_fmt_mu hc
  have h2 : ∀ g, mx_o4 μ' r e f g = mx_o4 μ r e f g := fun g => by unfold mx_o4; rw [c 5 (by decide) (by decide), c 6 (by decide) (by decide), c 7 (by decide) (by decide), c 8 (by decide) (by decide)]
  have h2' : ∀ g, mx_o4 μ' 0 e f g = mx_o4 μ 0 e f g := fun g => by unfold mx_o4; rw [c 5 (by decide) (by decide), c 6 (by decide) (by decide), c 7 (by decide) (by decide), c 8 (by decide) (by decide)]
  have h3 : mx_i4 μ' r e f = mx_i4 μ r e f := by unfold mx_i4; rw [c 6 (by decide) (by decide), c 7 (by decide) (by decide), c 8 (by decide) (by decide)]
  unfold mx_nn
  rw [h3, h2', h1, h1, h2, h1, c 9 (by decide) (by decide)]
theorem mx_nn_b : 0 ≤ mx_nn μ r e f ∧ mx_nn μ r e f ≤ 2 := by
  unfold mx_nn
  split <;> (try split) <;> (try split) <;> (try split) <;> exact ⟨by decide, by decide⟩
def mx_er (μ τ : am_M) : Prop := mx_rl μ τ ∧ mx_Fs μ (μ 13) (τ 96) ∧ (∀ r : Nat, r < 7 → τ 97 r = μ 14 r) ∧ τ 82 3 = mx_s7 (μ 14)
def mx_PE : List (Nat × Nat) := [(28, 1), (28, 2), (28, 3), (28, 4), (28, 5), (28, 6), (28, 7), (28, 8), (28, 9), (28, 10), (28, 11), (2, 3), (2, 9), (2, 17)]
def mx_PR : List (Nat × Nat) := [(82, 1), (82, 2), (82, 3), (82, 65), (82, 66), (82, 67)]
/-- found by both, and whether there is room -/
theorem find_b (hg : mx_gd μ) {W : Nat → Int} (hF : mx_Fs μ (μ 13) W) (d : Nat) :
    ∃ μ1 : am_M, mx_Fq [13] [(28, 1), (28, 2), (28, 3)] μ μ1 ∧ mx_gd μ1 ∧ mx_Fs μ1 (μ1 13) W ∧
      ((fi_find (d + 6) μ n = some (0, μ1, n) ∧ ∀ τ, mx_rl μ τ → τ 96 = W → ∃ τ1 : am_M, mx_Fq [104, 105, 106] mx_PR τ τ1 ∧ mx_rl μ1 τ1 ∧ τ1 96 = W ∧ τ1 82 3 = τ 82 3 ∧ mo_finds (d + 6) τ n = some (0, τ1, n)) ∨
       ∃ r e f : Nat, fi_find (d + 6) μ n = some (1, μ1, n) ∧ mx_fb μ1 r e f ∧ μ1 28 1 = e ∧ μ1 28 2 = r ∧ μ1 28 3 = (if r = 0 then -1 else (f : Int)) ∧ ∀ τ, mx_rl μ τ → τ 96 = W → ∃ τ1 : am_M, mx_Fq [104, 105, 106] mx_PR τ τ1 ∧ mx_rl μ1 τ1 ∧ τ1 96 = W ∧ τ1 82 3 = τ 82 3 ∧ mo_finds (d + 6) τ n = some (1, τ1, n) ∧
         τ1 82 65 = e ∧ τ1 82 66 = r ∧ τ1 82 67 = (if r = 0 then -1 else (f : Int))) := by
  obtain ⟨b, μ1, p1, p2, p3, p4⟩ := fi_find_s (n := n) hg hF d
  have c := mx_fd_c p2
  have hcc : ∀ i j, 2 ≤ i → i ≤ 12 → μ1 i j = μ i j := fun i j a b => by rw [c i (by omega) (by omega)]
  have hg1 : mx_gd μ1 := mx_gd_fr hg (fun i j a b _ => hcc i j a b)
  have hF1 : mx_Fs μ1 (μ1 13) W := mx_Fs_mu p2.2 (fun i j a b _ => hcc i j a (by omega))
  refine ⟨μ1, p2.1, hg1, hF1, ?_⟩
  have rl1 : ∀ τ, mx_rl μ τ → mx_rl μ1 τ := fun τ h => mx_rl_mu h (fun i j a b _ => hcc i j a (by omega))
  cases b with
  | false =>
    refine Or.inl ⟨p1, fun τ hr hW => ?_⟩
    obtain ⟨τ1, q1, q2, q3⟩ := mo_finds_s (n := n) hg hr (d + 2)
    rw [hW] at q3
    rcases q3 with ⟨q4, -⟩ | ⟨e', r', f', -, q5⟩
    · exact ⟨τ1, mx_fq_up (mx_fq_of q1) rfl, rl1 τ1 q2, by rw [q1 96 (by decide)]; exact hW, by rw [q1 82 (by decide)], q4⟩
    · exact absurd q5.1 (p3 rfl e' r' f')
  | true =>
    obtain ⟨e, r, F, g1, g2, g3, g4⟩ := p4 rfl
    obtain ⟨f, f1, f2⟩ := mx_cd_fb hg g4.1
    obtain ⟨fb1, -, -⟩ := mx_fb_mu (μ' := μ1) hg f1 (by rw [hcc 2 3 (by decide) (by decide)]; exact Int.le_refl _) (fun i _ => hcc 11 i (by decide) (by decide)) (fun x _ => ⟨hcc 5 x (by decide) (by decide), hcc 6 x (by decide) (by decide), hcc 7 x (by decide) (by decide), hcc 8 x (by decide) (by decide), hcc 9 x (by decide) (by decide)⟩)
    refine Or.inr ⟨r, e, f, p1, fb1, g1, g2, by rw [g3]; exact f2, fun τ hr hW => ?_⟩
    obtain ⟨τ1, q1, q2, q3⟩ := mo_finds_s (n := n) hg hr (d + 2)
    rw [hW] at q3
    rcases q3 with ⟨-, q5⟩ | ⟨e', r', f', q4, q5⟩
    · exact absurd g4.1 (q5 e r F)
    · obtain ⟨u1, u2, u3⟩ := mx_1st_u g4 q5
      subst u1
      subst u2
      subst u3
      refine ⟨am_wr (am_wr (am_wr τ1 82 65 e) 82 66 r) 82 67 F, mx_fq_wr (mx_fq_wr (mx_fq_wr (mx_fq_up (mx_fq_of q1) rfl) rfl) rfl) rfl, rl1 _ (mx_rl_fr q2 (fun i j a b => ?_) (fun j a => ?_)), ?_, ?_, q4, ?_, ?_, ?_⟩
      · rw [mx_wr_no (by omega), mx_wr_no (by omega), mx_wr_no (by omega)]
      · rw [mx_wr_no (by omega), mx_wr_no (by omega), mx_wr_no (by omega)]
      · rw [mx_wr_ne (by decide), mx_wr_ne (by decide), mx_wr_ne (by decide), q1 96 (by decide)]; exact hW
      · rw [mx_wr_off (by decide), mx_wr_off (by decide), mx_wr_off (by decide), q1 82 (by decide)]
      · rw [mx_wr_off (by decide), mx_wr_off (by decide), mx_wr_at]
      · rw [mx_wr_off (by decide), mx_wr_at]
      · rw [mx_wr_at]; exact f2
theorem pm_explore_21_s (d N : Nat) (hN : N ≤ 200) : ∀ (k i : Nat) (μ : am_M) (W : Nat → Int), i + k = N → mx_gd μ → mx_Fs μ (μ 13) W → (0 ≤ μ 2 17 ∧ μ 2 17 ≤ 2100000 + 2 * (i : Int)) →
    ∃ (z : Int) (μ' : am_M), pm_explore_21 (d + 6) N i μ n = some (z, μ', n) ∧ mx_Fq [5, 6, 7, 8, 9, 10, 11, 12, 13, 14] mx_PE μ μ' ∧ mx_gd μ' ∧ mx_vs (2 * k) μ μ' ∧ μ 2 3 ≤ μ' 2 3 ∧
      ∀ τ : am_M, mx_er μ τ → τ 96 = W → ∃ τ' : am_M, mo_explore_21 (d + 6) N i τ n = some (z, τ', n) ∧ mx_Fq [89, 90, 91, 92, 93, 94, 95, 96, 97, 104, 105, 106, 137] mx_PR τ τ' ∧ mx_er μ' τ' := by
  intro k
  induction k with
  | zero =>
    intro i μ W hi hg hF hv
    have e : (i : Int) = N := by omega
    refine ⟨N, μ, ?_, fun _ _ _ _ => rfl, hg, mx_vs_rf, Int.le_refl _, fun τ hr hW => ⟨τ, ?_, fun _ _ _ _ => rfl, hr⟩⟩
    · rw [pm_explore_21_e, if_neg (by omega)]
    · rw [mo_explore_21_e, if_neg (by omega), e]
  | succ k ih =>
    intro i μ W hi hg hF hv
    have hlt : (i : Int) < N := by omega
    have hn : am_w ((i : Int) + 1) = ((i + 1 : Nat) : Int) := mx_w_nat (by omega)
    obtain ⟨μ1, a1, a2, a3, a4⟩ := find_b (n := n) hg hF d
    have c17 : μ1 2 17 = μ 2 17 := a1 2 17 (by decide) (by decide)
    have c23 : μ1 2 3 = μ 2 3 := a1 2 3 (by decide) (by decide)
    have c29 : μ1 2 9 = μ 2 9 := a1 2 9 (by decide) (by decide)
    have cc : ∀ i, 5 ≤ i → i ≤ 11 → μ1 i = μ i := fun i a b => funext fun j => a1 i j (by simp only [List.mem_cons, List.not_mem_nil, or_false]; omega) (by simp only [List.mem_cons, List.not_mem_nil, or_false, Prod.mk.injEq]; omega)
    have c14 : μ1 14 = μ 14 := funext fun j => a1 14 j (by decide) (by simp)
    have vs1 : ∀ {k' : Int}, mx_vs k' μ μ1 := Or.inr ⟨c17, c23, c29, cc⟩
    rcases a4 with ⟨b1, b2⟩ | ⟨r, e, f, b1, b2, b3, b4, b5, b6⟩
    · refine ⟨i, μ1, ?_, mx_fq_up a1 rfl, a2, vs1, by omega, fun τ hr hW => ?_⟩
      · rw [pm_explore_21_e, if_pos hlt, b1]; rfl
      · obtain ⟨τ1, d1, d2, d3, d4, d5⟩ := b2 τ hr.1 hW
        refine ⟨τ1, ?_, mx_fq_up d1 rfl, d2, by rw [d3]; exact a3, fun r hr7 => ?_, ?_⟩
        · rw [mo_explore_21_e, if_pos hlt, d5]; rfl
        · rw [d1 97 r (by decide) (by unfold mx_PR; simp), c14]; exact hr.2.2.1 r hr7
        · rw [d4, c14]; exact hr.2.2.2
    · obtain ⟨μ2, r1, r2⟩ := fi_hasRoom_s (n := n) a2 (d + 2) b2 b3 b4 b5
      have cm : ∀ i j, i ≠ 28 → μ2 i j = μ1 i j := fun i j q => r2 i j (by simp) (by simp only [List.mem_cons, List.not_mem_nil, or_false, Prod.mk.injEq]; omega)
      have g2 : mx_gd μ2 := mx_gd_fr a2 (fun i j a b _ => cm i j (by omega))
      have F2 : mx_Fs μ2 (μ2 13) W := by rw [show μ2 13 = μ1 13 from funext fun j => cm 13 j (by decide)]; exact mx_Fs_mu a3 (fun i j a b _ => cm i j (by omega))
      have fr2 : mx_Fq [5, 6, 7, 8, 9, 10, 11, 12, 13, 14] mx_PE μ μ2 := mx_fq_tr (mx_fq_up a1 rfl) (mx_fq_up r2 rfl)
      have c14' : μ2 14 = μ 14 := (funext fun j => cm 14 j (by decide)).trans c14
      have vs2 : ∀ {k' : Int}, mx_vs k' μ μ2 := Or.inr ⟨by rw [cm 2 17 (by decide)]; exact c17, by rw [cm 2 3 (by decide)]; exact c23, by rw [cm 2 9 (by decide)]; exact c29, fun i a b => (funext fun j => cm i j (by omega)).trans (cc i a b)⟩
      have nb := mx_nn_b (μ := μ1) (r := r) (e := e) (f := f)
      have h64 := a2.2.1
      have w0 := a2.1.2.1
      -- the reference's room
      have refr : ∀ τ, mx_er μ τ → τ 96 = W → ∃ τ2 : am_M, mx_Fq [89, 90, 91, 92, 93, 94, 95, 96, 97, 104, 105, 106, 137] mx_PR τ τ2 ∧ mx_rl μ2 τ2 ∧ τ2 96 = W ∧ τ2 97 = τ 97 ∧ τ2 82 3 = τ 82 3 ∧ τ2 82 65 = e ∧ τ2 82 66 = r ∧ τ2 82 67 = (if r = 0 then -1 else (f : Int)) ∧
          mo_explore_21 (d + 6) N i τ n = (if 64 < μ1 2 3 + mx_nn μ1 r e f then some ((i : Int), τ2, n) else (mo_fires (d + 6) τ2 n).bind fun q3 => mo_explore_21 (d + 6) N ((i + 1 : Nat) : Int) q3.2.1 q3.2.2) := by
        intro τ hr hW
        obtain ⟨τ1, d1, d2, d3, d4, d5, d6, d7, d8⟩ := b6 τ hr.1 hW
        obtain ⟨τ2, e1, e2⟩ := mo_news_s (n := n) a2 d2 b2 (d + 2) d6 d7 d8
        have s82 : τ2 82 = τ1 82 := e2 82 (by decide)
        have c82 : τ1 82 1 = μ1 2 3 := d2.1.2.2.1
        refine ⟨τ2, mx_fq_tr (mx_fq_up d1 rfl) (mx_fq_up (mx_fq_of e2) rfl), mx_rl_mu (mx_rl_fr d2 (fun i j a b => congrFun (e2 i (by simp only [List.mem_cons, List.not_mem_nil, or_false]; omega)) j) (fun j _ => by rw [s82])) (fun i j a b _ => cm i j (by omega)), by rw [e2 96 (by decide)]; exact d3, ?_, by rw [s82]; exact d4, by rw [s82]; exact d6, by rw [s82]; exact d7, by rw [s82]; exact d8, ?_⟩
        · rw [e2 97 (by decide)]; exact funext fun j => d1 97 j (by decide) (by unfold mx_PR; simp)
        · rw [mo_explore_21_e, if_pos hlt, d5, Option.bind_some]
          show (if (1 : Int) = 0 then _ else _) = _
          rw [if_neg (by decide)]
          dsimp only
          rw [e1, Option.bind_some]
          have hw : am_w (τ1 82 1 + mx_nn μ1 r e f) = μ1 2 3 + mx_nn μ1 r e f := by rw [c82]; exact mx_w_id (by omega) (by omega)
          simp only [hw, hn]
      have cls : pm_explore_21 (d + 6) N i μ n = (if 64 < μ1 2 3 + mx_nn μ1 r e f then some ((i : Int), μ2, n) else (fi_fire (d + 6) μ2 n).bind fun q3 => pm_explore_21 (d + 6) N ((i + 1 : Nat) : Int) q3.2.1 q3.2.2) := by
        rw [pm_explore_21_e, if_pos hlt, b1, Option.bind_some]
        show (if (1 : Int) = 0 then _ else _) = _
        rw [if_neg (by decide)]
        dsimp only
        rw [r1, Option.bind_some]
        by_cases z : 64 < μ1 2 3 + mx_nn μ1 r e f
        · rw [if_pos z, decide_eq_false (by omega)]; rfl
        · rw [if_neg z, decide_eq_true (by omega)]
          dsimp only
          rw [mx_bT, hn]
      by_cases z : 64 < μ1 2 3 + mx_nn μ1 r e f
      · rw [if_pos z] at cls
        refine ⟨i, μ2, cls, fr2, g2, vs2, by rw [cm 2 3 (by decide), c23]; exact Int.le_refl _, fun τ hr hW => ?_⟩
        obtain ⟨τ2, u1, u2, u3, u4, u5, u6, u7, u8, u9⟩ := refr τ hr hW
        rw [if_pos z] at u9
        exact ⟨τ2, u9, u1, u2, by rw [u3]; exact F2, fun r hr7 => by rw [u4, c14']; exact hr.2.2.1 r hr7, by rw [u5, c14']; exact hr.2.2.2⟩
      · rw [if_neg z] at cls
        have k28 : ∀ j, j < 4 → μ2 28 j = μ1 28 j := fun j hj => r2 28 j (by decide) (by simp only [List.mem_cons, List.not_mem_nil, or_false, Prod.mk.injEq]; omega)
        obtain ⟨fb2, -, -⟩ := mx_fb_mu (μ' := μ2) a2 b2 (by rw [cm 2 3 (by decide)]; exact Int.le_refl _) (fun i _ => cm 11 i (by decide)) (fun x _ => ⟨cm 5 x (by decide), cm 6 x (by decide), cm 7 x (by decide), cm 8 x (by decide), cm 9 x (by decide)⟩)
        have nn2 : mx_nn μ2 r e f = mx_nn μ1 r e f := mx_nn_mu (fun i j a b _ => cm i j (by omega))
        have v2 : μ2 2 17 = μ 2 17 := by rw [cm 2 17 (by decide)]; exact c17
        obtain ⟨μ3, y1, y2, y3, y4, y5, y6, y7, y8⟩ := fire_b (n := n) g2 F2 fb2 (by rw [k28 1 (by decide)]; exact b3) (by rw [k28 2 (by decide)]; exact b4) (by rw [k28 3 (by decide)]; exact b5) (by rw [nn2, cm 2 3 (by decide)]; omega) (by omega) d
        have vb := mx_vs_b y5 (by decide)
        obtain ⟨z', μ', x1, x2, x3, x4, x5, x6⟩ := ih (i + 1) μ3 (mx_up W (mx_ixf e r f) 1) (by omega) y3 y4 (by omega)
        have m23 : μ2 2 3 = μ 2 3 := by rw [cm 2 3 (by decide)]; exact c23
        have hr7 := fb2.2.2.1.1
        refine ⟨z', μ', ?_, mx_fq_tr fr2 (mx_fq_tr (mx_fq_up y2 rfl) x2), x3, mx_vs_up (mx_vs_tr vs2 (mx_vs_tr y5 x4 (by decide) (by omega)) (k := 0) (by decide) (by omega)) (by omega), by omega, fun τ hr hW => ?_⟩
        · rw [cls, y1]; exact x1
        · obtain ⟨τ2, u1, u2, u3, u4, u5, u6, u7, u8, u9⟩ := refr τ hr hW
          rw [if_neg z] at u9
          obtain ⟨τ3, w1, w2, w3, w4, w5, w6⟩ := y8 τ2 u2 u6 u7 u8
          have er3 : mx_er μ3 τ3 := by
            refine ⟨w3, by rw [w4, u3]; exact y4, fun r' hr' => ?_, ?_⟩
            · rw [w5, y7, u4, c14']
              by_cases q : r' = r
              · rw [q, mx_up_at, mx_up_at, hr.2.2.1 r hr7]
              · rw [mx_up_ne q, mx_up_ne q]; exact hr.2.2.1 r' hr'
            · rw [w6, u5, y7, c14', mx_s7_up _ _ hr7, hr.2.2.2]
          obtain ⟨τ', s1, s2, s3⟩ := x6 τ3 er3 (by rw [w4, u3])
          refine ⟨τ', ?_, mx_fq_tr u1 (mx_fq_tr (mx_fq_up w2 rfl) s2), s3⟩
          rw [u9, w1]; exact s1
theorem mx_er_I (hI : mx_Inv t n σ) : mx_er σ σ := ⟨mx_I_rl hI, (mx_I_2 hI).1, (mx_I_2 hI).2.1, (mx_I_2 hI).2.2⟩
theorem mx_er_fr {μ τ τ' : am_M} (h : mx_er μ τ) (hc : ∀ i j, 84 ≤ i → i ≤ 97 → τ' i j = τ i j) (h82 : ∀ j, j < 4 → τ' 82 j = τ 82 j) : mx_er μ τ' :=
  ⟨mx_rl_fr h.1 (fun i j a b => hc i j a (by omega)) (fun j a => h82 j (by omega)), by rw [show τ' 96 = τ 96 from funext fun j => hc 96 j (by decide) (by decide)]; exact h.2.1, fun r hr => by rw [hc 97 r (by decide) (by decide)]; exact h.2.2.1 r hr, by rw [h82 3 (by decide)]; exact h.2.2.2⟩
theorem explore_c (hI : mx_Inv t n σ) (ht : t < 1000) (d : Nat) (v1 : Int) : mx_C t n σ (fun σ n => pm_explore (d + 7) v1 σ n) (fun σ n => mo_explore (d + 7) v1 σ n) := by
  by_cases h1 : 1 ≤ v1 ∧ v1 ≤ 200
  · obtain ⟨N, rfl⟩ : ∃ N : Nat, v1 = N := ⟨v1.toNat, by omega⟩
    have hv := (mx_I_A hI).1
    have hg := mx_I_gd hI
    have er := mx_er_I hI
    obtain ⟨z, μ', p1, p2, p3, p4, p5, p6⟩ := pm_explore_21_s (n := n) d N (by omega) N 0 σ (σ 96) (by omega) hg er.2.1 (by omega)
    have er1 : mx_er σ μ' := mx_er_fr er (fun i j a b => p2 i j (by simp only [List.mem_cons, List.not_mem_nil, or_false, not_or]; omega) (by unfold mx_PE; simp only [List.mem_cons, List.not_mem_nil, or_false, not_or, Prod.mk.injEq]; omega)) (fun j _ => p2 82 j (by decide) (by unfold mx_PE; simp))
    have k96 : μ' 96 = σ 96 := funext fun j => p2 96 j (by decide) (by unfold mx_PE; simp)
    obtain ⟨τ', q1, q2, q3⟩ := p6 μ' er1 k96
    have hc : ∀ i j, 2 ≤ i → i ≤ 14 → τ' i j = μ' i j := fun i j a b => q2 i j (by simp only [List.mem_cons, List.not_mem_nil, or_false, not_or]; omega) (by unfold mx_PR; simp only [List.mem_cons, List.not_mem_nil, or_false, not_or, Prod.mk.injEq]; omega)
    have g : mx_Fq mx_CM mx_PM σ τ' := mx_fq_tr (mx_fq_up p2 rfl) (mx_fq_up q2 rfl)
    have hb1 : ¬ ((N : Int) < 1) := by omega
    have hb2 : ¬ (200 < (N : Int)) := by omega
    have hb3 : 1 ≤ (N : Int) ∧ (N : Int) ≤ 200 := h1
    refine mx_C_of z μ' τ' ?_ ?_ ?_
    · rw [pm_explore_e, if_neg hb1, if_neg hb2]; exact p1
    · rw [mo_explore_e, mo_isFrom_s, Option.bind_some, mx_bi_p hb3]; exact q1
    · refine mx_Inv_memo2 hI g (mx_I1_of p3 q3.1 hc) (mx_I2_of q3.2.1 q3.2.2.1 q3.2.2.2 hc) ?_ ?_ ?_ (k := 2 * N) (by omega) ?_
      · have := mx_I_3 hI
        unfold mx_I3
        rw [g 82 4 (by decide) (by decide), hc 2 15 (by decide) (by decide), hc 2 16 (by decide) (by decide), p2 2 15 (by decide) (by decide), p2 2 16 (by decide) (by decide), q2 82 5 (by decide) (by decide), p2 82 5 (by decide) (by decide)]
        exact this
      · have := mx_I_4 hI
        unfold mx_I4
        rw [q2 82 6 (by decide) (by decide), p2 82 6 (by decide) (by decide), q2 0 12 (by decide) (by decide), p2 0 12 (by decide) (by decide)]
        exact this
      · rw [hc 2 3 (by decide) (by decide)]; exact p5
      · unfold mx_vs at p4 ⊢
        rw [hc 2 17 (by decide) (by decide), hc 2 3 (by decide) (by decide), hc 2 9 (by decide) (by decide)]
        rcases p4 with q | q
        · exact Or.inl q
        · exact Or.inr ⟨q.1, q.2.1, q.2.2.1, fun i a b => (funext fun j => hc i j (by omega) (by omega)).trans (q.2.2.2 i a b)⟩
  · refine mx_C_ref hI 6 (-6) ?_ (by rw [mo_explore_e, mo_isFrom_s, Option.bind_some, mx_bi_n h1, mo_no_s _ _ _ _ (by omega), Option.bind_some]; rfl)
    by_cases q : v1 < 1
    · rw [pm_explore_e, if_pos q, pm_refuse_s _ _ _ _ (by omega), Option.bind_some]; rfl
    · rw [pm_explore_e, if_neg q, if_pos (by omega), pm_refuse_s _ _ _ _ (by omega), Option.bind_some]; rfl
theorem next_c (hI : mx_Inv t n σ) (d : Nat) (v1 : Int) : mx_C t n σ (fun σ n => pm_next (d + 7) v1 σ n) (fun σ n => mo_next (d + 7) v1 σ n) := by
  by_cases h1 : 0 ≤ v1 ∧ v1 ≤ 3
  · have hg := mx_I_gd hI
    have er := mx_er_I hI
    have hb1 : ¬ (v1 < 0) := by omega
    have hb2 : ¬ (3 < v1) := by omega
    obtain ⟨μ1, a1, a2, a3, a4⟩ := find_b (n := n) hg er.2.1 d
    -- behind it
    have fin : ∀ (z : Int) (μ2 τ2 : am_M), pm_next (d + 7) v1 σ n = some (z, μ2, n) → mo_next (d + 7) v1 μ2 n = some (z, τ2, n) → mx_Fq [] [(28, 4), (28, 5), (28, 6), (28, 7), (28, 8), (28, 9), (28, 10), (28, 11)] μ1 μ2 → mx_Fq [104, 105, 106, 137] mx_PR μ2 τ2 → mx_rl μ1 τ2 → τ2 82 3 = σ 82 3 → mx_C t n σ (fun σ n => pm_next (d + 7) v1 σ n) (fun σ n => mo_next (d + 7) v1 σ n) := by
      intro z μ2 τ2 e1 e2 f1 f2 f3 f4
      have g : mx_Fq [13, 104, 105, 106, 137] mx_PM σ τ2 → True := fun _ => trivial
      have hc : ∀ i j, 2 ≤ i → i ≤ 14 → τ2 i j = μ1 i j := fun i j a b => by
        rw [f2 i j (by simp only [List.mem_cons, List.not_mem_nil, or_false, not_or]; omega) (by unfold mx_PR; simp only [List.mem_cons, List.not_mem_nil, or_false, not_or, Prod.mk.injEq]; omega)]
        exact f1 i j (by simp) (by simp only [List.mem_cons, List.not_mem_nil, or_false, Prod.mk.injEq]; omega)
      have g : mx_Fq mx_CM mx_PM σ τ2 := mx_fq_tr (mx_fq_up a1 rfl) (mx_fq_tr (mx_fq_up f1 rfl) (mx_fq_up f2 rfl))
      have k96 : τ2 96 = σ 96 := funext fun j => by rw [f2 96 j (by decide) (by unfold mx_PR; simp), f1 96 j (by decide) (by simp), a1 96 j (by decide) (by simp)]
      have k97 : τ2 97 = σ 97 := funext fun j => by rw [f2 97 j (by decide) (by unfold mx_PR; simp), f1 97 j (by decide) (by simp), a1 97 j (by decide) (by simp)]
      have k14 : μ1 14 = σ 14 := funext fun j => a1 14 j (by decide) (by simp)
      have m : ∀ i j, 2 ≤ i → i ≤ 14 → i ≠ 13 → τ2 i j = σ i j := fun i j a b c => by
        rw [hc i j a b]
        exact a1 i j (by simp only [List.mem_cons, List.not_mem_nil, or_false]; exact c) (by simp only [List.mem_cons, List.not_mem_nil, or_false, Prod.mk.injEq]; omega)
      refine mx_C_of z μ2 τ2 e1 e2 (mx_Inv_memo2 hI g (mx_I1_of a2 f3 hc) (mx_I2_of (by rw [k96]; exact a3) (fun r hr => by rw [k97, k14]; exact er.2.2.1 r hr) (by rw [f4, k14]; exact er.2.2.2) hc) ?_ ?_ ?_ (k := 0) (by decide) (Or.inr ⟨m 2 17 (by decide) (by decide) (by decide), m 2 3 (by decide) (by decide) (by decide), m 2 9 (by decide) (by decide) (by decide), fun i a b => funext fun j => m i j (by omega) (by omega) (by omega)⟩))
      · have := mx_I_3 hI
        unfold mx_I3
        rw [m 2 15 (by decide) (by decide) (by decide), m 2 16 (by decide) (by decide) (by decide), f2 82 4 (by decide) (by decide), f1 82 4 (by decide) (by decide), a1 82 4 (by decide) (by decide), f2 82 5 (by decide) (by decide), f1 82 5 (by decide) (by decide), a1 82 5 (by decide) (by decide)]
        exact this
      · have := mx_I_4 hI
        unfold mx_I4
        rw [f2 82 6 (by decide) (by decide), f1 82 6 (by decide) (by decide), a1 82 6 (by decide) (by decide), f2 0 12 (by decide) (by decide), f1 0 12 (by decide) (by decide), a1 0 12 (by decide) (by decide)]
        exact this
      · rw [m 2 3 (by decide) (by decide) (by decide)]; exact Int.le_refl _
    have rlb : ∀ μ2, mx_Fq [] [(28, 4), (28, 5), (28, 6), (28, 7), (28, 8), (28, 9), (28, 10), (28, 11)] μ1 μ2 → mx_rl σ μ2 ∧ μ2 96 = σ 96 ∧ μ2 82 3 = σ 82 3 := fun μ2 f1 => by
      have k : ∀ i j, 82 ≤ i → μ2 i j = σ i j := fun i j a => by
        rw [f1 i j (by simp) (by simp only [List.mem_cons, List.not_mem_nil, or_false, Prod.mk.injEq]; omega)]
        exact a1 i j (by simp only [List.mem_cons, List.not_mem_nil, or_false]; omega) (by simp only [List.mem_cons, List.not_mem_nil, or_false, Prod.mk.injEq]; omega)
      exact ⟨mx_rl_fr er.1 (fun i j a b => k i j (by omega)) (fun j _ => k 82 j (by decide)), funext fun j => k 96 j (by decide), k 82 3 (by decide)⟩
    rcases a4 with ⟨b1, b2⟩ | ⟨r, e, f, b1, b2, b3, b4, b5, b6⟩
    · obtain ⟨u1, u2, u3⟩ := rlb μ1 (fun _ _ _ _ => rfl)
      obtain ⟨τ1, d1, d2, d3, d4, d5⟩ := b2 μ1 u1 u2
      refine fin (-1) μ1 τ1 ?_ ?_ (fun _ _ _ _ => rfl) (mx_fq_up d1 rfl) d2 (by rw [d4]; exact u3)
      · rw [pm_next_e, if_neg hb1, if_neg hb2, b1]; rfl
      · rw [mo_next_e, mo_isFrom_s, Option.bind_some, mx_bi_p h1]
        dsimp only
        rw [d5]; rfl
    · -- one is there
      have one : ∀ (z : Int), (v1 = 0 → z = e) → (v1 = 1 → z = r) → (v1 = 2 → z = if r = 0 then -1 else (f : Int)) → v1 ≠ 3 → mx_C t n σ (fun σ n => pm_next (d + 7) v1 σ n) (fun σ n => mo_next (d + 7) v1 σ n) := by
        intro z z0 z1 z2 z3
        obtain ⟨u1, u2, u3⟩ := rlb μ1 (fun _ _ _ _ => rfl)
        obtain ⟨τ1, d1, d2, d3, d4, d5, d6, d7, d8⟩ := b6 μ1 u1 u2
        refine fin z μ1 τ1 ?_ ?_ (fun _ _ _ _ => rfl) (mx_fq_up d1 rfl) d2 (by rw [d4]; exact u3)
        · rw [pm_next_e, if_neg hb1, if_neg hb2, b1, Option.bind_some]
          show (if (1 : Int) = 0 then _ else _) = _
          rw [if_neg (by decide)]
          by_cases q0 : v1 = 0
          · rw [if_pos q0, z0 q0]; dsimp only; rw [b3]
          rw [if_neg q0]
          by_cases q1 : v1 = 1
          · rw [if_pos q1, z1 q1]; dsimp only; rw [b4]
          rw [if_neg q1]
          by_cases q2 : v1 = 2
          · rw [if_pos q2, z2 q2]; dsimp only; rw [b5]
          · exact absurd (by omega) z3
        · rw [mo_next_e, mo_isFrom_s, Option.bind_some, mx_bi_p h1]
          dsimp only
          rw [d5, Option.bind_some]
          show (if (1 : Int) = 0 then _ else _) = _
          rw [if_neg (by decide)]
          by_cases q0 : v1 = 0
          · rw [if_pos q0, z0 q0]; dsimp only; rw [d6]
          rw [if_neg q0]
          by_cases q1 : v1 = 1
          · rw [if_pos q1, z1 q1]; dsimp only; rw [d7]
          rw [if_neg q1]
          by_cases q2 : v1 = 2
          · rw [if_pos q2, z2 q2]; dsimp only; rw [d8]
          · exact absurd (by omega) z3
      by_cases q0 : v1 = 0
      · exact one e (fun _ => rfl) (fun q => by omega) (fun q => by omega) (by omega)
      by_cases q1 : v1 = 1
      · exact one r (fun q => by omega) (fun _ => rfl) (fun q => by omega) (by omega)
      by_cases q2 : v1 = 2
      · exact one (if r = 0 then -1 else (f : Int)) (fun q => absurd q q0) (fun q => absurd q q1) (fun _ => rfl) (by omega)
      · obtain ⟨μ2, r1, r2⟩ := fi_hasRoom_s (n := n) a2 (d + 2) b2 b3 b4 b5
        obtain ⟨u1, u2, u3⟩ := rlb μ2 r2
        obtain ⟨τ1, d1, d2, d3, d4, d5, d6, d7, d8⟩ := b6 μ2 u1 u2
        obtain ⟨τ2, e1, e2⟩ := mo_news_s (n := n) a2 d2 b2 (d + 2) d6 d7 d8
        have s82 : τ2 82 = τ1 82 := e2 82 (by decide)
        have c82 : τ1 82 1 = μ1 2 3 := d2.1.2.2.1
        have nb := mx_nn_b (μ := μ1) (r := r) (e := e) (f := f)
        have h64 := a2.2.1
        have w0 := a2.1.2.1
        refine fin (if 64 < μ1 2 3 + mx_nn μ1 r e f then 0 else 1) μ2 τ2 ?_ ?_ r2 (mx_fq_tr (mx_fq_up d1 rfl) (mx_fq_up (mx_fq_of e2) rfl)) (mx_rl_fr d2 (fun i j a b => congrFun (e2 i (by simp only [List.mem_cons, List.not_mem_nil, or_false]; omega)) j) (fun j _ => by rw [s82])) (by rw [s82, d4]; exact u3)
        · rw [pm_next_e, if_neg hb1, if_neg hb2, b1, Option.bind_some]
          show (if (1 : Int) = 0 then _ else _) = _
          rw [if_neg (by decide), if_neg q0, if_neg q1, if_neg q2]
          dsimp only
          rw [r1, Option.bind_some]
          by_cases z : 64 < μ1 2 3 + mx_nn μ1 r e f
          · rw [if_pos z, decide_eq_false (by omega)]; rfl
          · rw [if_neg z, decide_eq_true (by omega)]; rfl
        · rw [mo_next_e, mo_isFrom_s, Option.bind_some, mx_bi_p h1]
          dsimp only
          rw [d5, Option.bind_some]
          show (if (1 : Int) = 0 then _ else _) = _
          rw [if_neg (by decide), if_neg q0, if_neg q1, if_neg q2]
          dsimp only
          rw [e1, Option.bind_some]
          have hw : am_w (τ1 82 1 + mx_nn μ1 r e f) = μ1 2 3 + mx_nn μ1 r e f := by rw [c82]; exact mx_w_id (by omega) (by omega)
          simp only [hw]
          by_cases z : 64 < μ1 2 3 + mx_nn μ1 r e f
          · rw [if_pos z, if_pos z]
          · rw [if_neg z, if_neg z]
  · refine mx_C_ref hI 5 (-5) ?_ (by rw [mo_next_e, mo_isFrom_s, Option.bind_some, mx_bi_n h1, mo_no_s _ _ _ _ (by omega), Option.bind_some]; rfl)
    by_cases q : v1 < 0
    · rw [pm_next_e, if_pos q, pm_refuse_s _ _ _ _ (by omega), Option.bind_some]; rfl
    · rw [pm_next_e, if_neg q, if_pos (by omega), pm_refuse_s _ _ _ _ (by omega), Option.bind_some]; rfl
end
