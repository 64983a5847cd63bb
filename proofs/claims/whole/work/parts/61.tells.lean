/-! the reference tells rows, columns and first expressions -/
def mx_RT (tn : Int) (TF D : Nat → Int) (σ : am_M) : Prop := σ 82 0 = tn ∧ (∀ t : Nat, (t : Int) < tn → σ 85 t = TF (4 * t) ∧ σ 86 t = TF (4 * t + 1) ∧ σ 87 t = TF (4 * t + 2) ∧ σ 88 t = TF (4 * t + 3)) ∧ ∀ c : Nat, c < 4 → σ 84 c = D c
theorem mx_mul_rg {a b : Int} (ha : 0 ≤ a ∧ a ≤ 1000000) (hb : 0 ≤ b ∧ b ≤ 1000000) : 0 ≤ a * b ∧ a * b ≤ 1000000000000 := by
  refine ⟨Int.mul_nonneg ha.1 hb.1, ?_⟩
  have := Int.mul_le_mul ha.2 hb.2 hb.1 (by decide)
  omega
theorem mx_swap {x : Int} : am_w (am_mx 1 (am_mn 1000000 x)) = am_mn 1000000 (am_mx 1 x) := by
  have h : am_mx 1 (am_mn 1000000 x) = am_mn 1000000 (am_mx 1 x) := by
    unfold am_mn am_mx
    split <;> split <;> (try split) <;> omega
  rw [h]
  have h1 : am_mn 1000000 (am_mx 1 x) ≤ 1000000 := mx_mn_l.1
  have h2 : 1 ≤ am_mn 1000000 (am_mx 1 x) := by
    unfold am_mn am_mx
    split <;> split <;> omega
  exact mx_w_id (by omega) (by omega)
theorem mo_tells_2_s (d n : Nat) : ∀ (t i : Nat) (σ : am_M), (i : Int) + t = σ 82 2 → σ 82 2 ≤ 144 → (∀ j : Nat, j < i → σ 106 j = -1) → ∃ σ' : am_M, mo_tells_2 d i σ n = mo_tells_25 d 0 σ' n ∧ mx_Fr [106] σ σ' ∧ ∀ j : Nat, (j : Int) < σ 82 2 → σ' 106 j = -1 := by
  intro t
  induction t with
  | zero =>
    intro i σ hi hg hj
    exact ⟨σ, by rw [mo_tells_2_e, if_neg (by omega)], mx_fr_rf, fun j h => hj j (by omega)⟩
  | succ t ih =>
    intro i σ hi hg hj
    obtain ⟨σ', p1, p2, p3⟩ := ih (i + 1) (am_wr σ 106 i (-1)) (by simp (disch := first | omega | decide) only [mx_wr_ne]; omega) (by simp (disch := first | omega | decide) only [mx_wr_ne]; omega) (fun j h => by
      rw [mx_wr_if]
      split
      · rfl
      · exact hj j (by omega))
    refine ⟨σ', ?_, mx_fr_tr (mx_fr_wr mx_fr_rf (by decide)) p2, fun j h => p3 j (by simp (disch := first | omega | decide) only [mx_wr_ne]; exact h)⟩
    rw [mo_tells_2_e, if_pos (by omega)]
    simp (disch := first | omega | decide) only [ix_106, am_m, Int.toNat_natCast, mx_w_id]
    exact p1
section
variable {tn m g : Int} {TF D K P X Y H T C : Nat → Int} {σ : am_M}
/-- so far: by the first e expressions -/
def mx_so (g : Int) (TF D K P X Y H C : Nat → Int) (σ τ : am_M) (e : Nat) : Prop :=
  mx_Fr [104, 105, 106] σ τ ∧ ∀ i : Nat, (i : Int) < g → τ 106 i = mx_lF H e i ∧ (mx_lF H e i ≠ -1 → τ 104 i = mx_rF TF D K P X Y H e i ∧ τ 105 i = C i)
theorem mx_so_same {τ : am_M} {e : Nat} (h : mx_so g TF D K P X Y H C σ τ e) (hs : ∀ i : Nat, (i : Int) < g → ¬ (H e = i ∧ mx_lF H e i = -1)) : mx_so g TF D K P X Y H C σ τ (e + 1) := by
  refine ⟨h.1, fun i hi => ?_⟩
  have h1 := hs i hi
  rw [mx_lF_S, if_neg h1, mx_rF_S, if_neg (by rw [← mx_lr]; exact h1)]
  exact h.2 i hi
theorem mo_tells_313_s (hW : mx_W tn m g TF D K P X Y H T C) (hR : mx_R m g K P X Y H T σ) (hT : mx_RT tn TF D σ) (d n : Nat) (e : Nat) (he : (e : Int) < m) (hH : H e ≠ -1) (τ : am_M) (hF : mx_Fr [104, 105, 106] σ τ) (x y s0 : Int)
    (hx : K e ≠ 1 → 0 ≤ x ∧ x < g ∧ τ 105 x.toNat = C x.toNat ∧ x = X e) (hy : 5 ≤ K e → 0 ≤ y ∧ y < g ∧ τ 105 y.toNat = C y.toNat ∧ y = Y e) :
    mo_tells_313 d e (H e) x y s0 τ n = mo_tells_25 d ((e + 1 : Nat) : Int) (am_wr (am_wr τ 104 (H e).toNat (am_mx 1 s0)) 105 (H e).toNat (C (H e).toNat)) n := by
  obtain ⟨hRe, hRi, r1, r2, r3, r4, r5⟩ := hR
  obtain ⟨w1, w2, w3, w4, w5, w6, w7, w8, w9⟩ := hW
  obtain ⟨a1, a2, a3, a4⟩ := hRe e he
  obtain ⟨k1, k2, k3, k4, k5, k6⟩ := w4 e he
  obtain ⟨s1, s2, s3⟩ := w3.1 e he hH
  obtain ⟨c1, c2⟩ := w9 e he hH
  have f89 : τ 89 = σ 89 := hF 89 (by decide)
  have f90 : τ 90 = σ 90 := hF 90 (by decide)
  have f86 : τ 86 = σ 86 := hF 86 (by decide)
  rw [mo_tells_313_e]
  simp (disch := first | omega | decide) only [ix_104, ix_105, ix_89, ix_90, am_m, Int.toNat_natCast, mx_wr_ne, f89, f90, f86, a1, a2, mx_w_id]
  rw [c1]
  unfold mx_cb mx_tc mx_yc
  have hn : am_w ((e : Int) + 1) = ((e + 1 : Nat) : Int) := by rw [mx_w_id (by omega) (by omega)]; rfl
  by_cases q1 : K e = 1
  · have t := k3 q1
    rw [if_pos q1]
    try rw [ix_86 (by omega) (by omega)]
    rw [if_neg (by omega), if_neg (by omega), if_pos q1, (hT.2.1 (P e).toNat (by omega)).2.1]
    have e1 : (4 * P e + 1).toNat = 4 * (P e).toNat + 1 := by omega
    rw [e1]
    rfl
  · obtain ⟨x1, x2, x3, x4⟩ := hx q1
    rw [if_neg q1]
    by_cases q4 : K e = 4
    · rw [if_pos q4, if_pos q4, if_pos ⟨by omega, by have := k4 (by omega); omega⟩]
      rfl
    · rw [if_neg q4, if_neg q4]
      try rw [ix_105 x1 (by omega)]
      by_cases q5 : K e = 5
      · obtain ⟨y1, y2, y3, y4⟩ := hy (by omega)
        rw [if_pos q5, if_pos q5]
        try rw [ix_105 y1 (by omega)]
        rw [x3, y3, if_neg q1, if_pos (by omega), if_pos (by omega), ← x4, ← y4]
        rfl
      · rw [if_neg q5, if_neg q5, x3, if_neg q1, if_pos (by omega), ← x4]
        rfl
theorem mo_tells_25_s (hW : mx_W tn m g TF D K P X Y H T C) (hR : mx_R m g K P X Y H T σ) (hT : mx_RT tn TF D σ) (d n : Nat) : ∀ (t e : Nat) (τ : am_M), (e : Int) + t = m → mx_so g TF D K P X Y H C σ τ e →
    ∃ τ' : am_M, mo_tells_25 (d + 1) e τ n = some (0, τ', n) ∧ mx_so g TF D K P X Y H C σ τ' m.toNat := by
  have hR0 := hR
  have hW0 := hW
  obtain ⟨hRe, hRi, r1, r2, r3, r4, r5⟩ := hR
  obtain ⟨w1, w2, w3, w4, w5, w6, w7, w8, w9⟩ := hW
  intro t
  induction t with
  | zero =>
    intro e τ he hs
    have : m.toNat = e := by omega
    rw [this]
    exact ⟨τ, by rw [mo_tells_25_e, if_neg (by rw [(hs.1 82 (by decide))]; omega)], hs⟩
  | succ t ih =>
    intro e τ he hs
    have he' : (e : Int) < m := by omega
    have aa := hRe e he'
    have a1 := aa.1
    have a2 := aa.2.1
    have a3 := aa.2.2.1
    have kk := w4 e he'
    have k2 := kk.2.1
    have root : ∀ (ρ : am_M) (v : Int), ρ 94 = σ 94 → 0 ≤ v → v < g → mo_root (d + 1) v ρ n = some (T v.toNat, ρ, n) := fun ρ v h h0 h1 => mo_root_s d ρ n (by rw [h]; exact hRi) (by omega) v h0 h1
    rw [mo_tells_25_e, if_pos (by rw [(hs.1 82 (by decide))]; omega), ix_95 (by omega) (by omega), Int.toNat_natCast, (hs.1 95 (by decide)), a3]
    by_cases hH : H e = -1
    · rw [if_pos hH, if_neg (by decide), mx_w_nat (by omega)]
      exact ih (e + 1) τ (by omega) (mx_so_same hs fun i hi q => by rw [hH] at q; omega)
    · rw [if_neg hH, if_pos rfl]
      obtain ⟨b1, b2, b3⟩ := (aa.2.2.2 hH).1
      obtain ⟨s1, s2, s3⟩ := w3.1 e he' hH
      have ll := w7 e he' hH
      have hh := hs.2 (H e).toNat (by omega)
      rw [ix_93 (by omega) (by omega), (hs.1 93 (by decide)), root τ _ (hs.1 94 (by decide)) b1 b2, Option.bind_some, b3]
      dsimp only
      rw [ix_106 (by omega) (by omega)]
      simp only [hh.1]
      by_cases q : mx_lF H e (H e).toNat = -1
      · rw [if_pos q, ix_93 (by omega) (by omega), (hs.1 93 (by decide)), root τ _ (hs.1 94 (by decide)) b1 b2, Option.bind_some, b3]
        dsimp only [am_m]
        rw [ix_106 (by omega) (by omega)]
        have hg1 : ∀ v : Int, v ≠ -1 → (∃ f : Nat, f < e ∧ H f = v) → 0 ≤ v → v < g → τ 104 v.toNat = mx_rF TF D K P X Y H e v.toNat ∧ τ 105 v.toNat = C v.toNat ∧ (1 ≤ mx_rF TF D K P X Y H e v.toNat ∧ mx_rF TF D K P X Y H e v.toNat ≤ 1000000) := by
          intro v h1 h2 h3 h4
          obtain ⟨f, f1, f2⟩ := h2
          have h5 : mx_lF H e v.toNat ≠ -1 := (mx_lF_iff e _).mpr ⟨f, f1, by omega⟩
          obtain ⟨p1, p2⟩ := (hs.2 v.toNat (by omega)).2 h5
          have p3 := mx_rF_rg (X := X) (Y := Y) (H := H) w1 w4 e (by omega) v.toNat
          have p4 : mx_rF TF D K P X Y H e v.toNat ≠ 0 := (mx_rF_iff e _).mpr ⟨f, f1, by omega⟩
          exact ⟨p1, p2, by omega, p3.2⟩
        -- what stands behind
        have fin : ∀ (x y s0 : Int), (K e ≠ 1 → 0 ≤ x ∧ x < g ∧ x = X e) → (5 ≤ K e → 0 ≤ y ∧ y < g ∧ y = Y e) → am_mx 1 s0 = am_mx 1 (mx_rb TF D (K e) (P e) (if X e < 0 then 0 else mx_rF TF D K P X Y H e (X e).toNat) (if Y e < 0 then 0 else mx_rF TF D K P X Y H e (Y e).toNat)) →
            ∃ τ' : am_M, mo_tells_313 (d + 1) e (H e) x y s0 (am_wr τ 106 (H e).toNat e) n = some (0, τ', n) ∧ mx_so g TF D K P X Y H C σ τ' m.toNat := by
          intro x y s0 hx hy hs0
          have hF : mx_Fr [104, 105, 106] σ (am_wr τ 106 (H e).toNat e) := mx_fr_wr hs.1 (by decide)
          rw [mo_tells_313_s hW0 hR0 hT (d + 1) n e he' hH _ hF x y s0 (fun hk => by
            obtain ⟨x1, x2, x3⟩ := hx hk
            rw [mx_wr_ne (by decide)]
            have hne : X e ≠ -1 := by omega
            exact ⟨x1, x2, by rw [x3]; exact (hg1 _ hne (ll.1 hne) (by omega) (by omega)).2.1, x3⟩) (fun hk => by
            obtain ⟨x1, x2, x3⟩ := hy hk
            rw [mx_wr_ne (by decide)]
            have hne : Y e ≠ -1 := by omega
            exact ⟨x1, x2, by rw [x3]; exact (hg1 _ hne (ll.2 hne) (by omega) (by omega)).2.1, x3⟩)]
          refine ih (e + 1) _ (by omega) ⟨mx_fr_wr (mx_fr_wr hF (by decide)) (by decide), fun i hi => ?_⟩
          rw [mx_lF_S, mx_rF_S]
          by_cases z : i = (H e).toNat
          · subst z
            have hq : H e = ((H e).toNat : Int) ∧ mx_lF H e (H e).toNat = -1 := ⟨by omega, q⟩
            rw [if_pos hq, if_pos ⟨hq.1, mx_lr _ _ |>.mp q⟩]
            refine ⟨?_, fun _ => ⟨?_, ?_⟩⟩
            · rw [mx_wr_ne (by decide), mx_wr_ne (by decide), mx_wr_at]
            · rw [mx_wr_ne (by decide), mx_wr_at]; exact hs0
            · rw [mx_wr_at]
          · have hq : ∀ p : Prop, ¬ (H e = (i : Int) ∧ p) := fun p r => z (by omega)
            rw [if_neg (hq _), if_neg (hq _), mx_wr_ne (by decide), mx_wr_ne (by decide), mx_wr_off z, mx_wr_ne (by decide), mx_wr_off z, mx_wr_ne (by decide), mx_wr_off z, mx_wr_ne (by decide)]
            exact hs.2 i hi
        have gg : mx_Fr [104, 105, 106] σ (am_wr τ 106 (H e).toNat e) := mx_fr_wr hs.1 (by decide)
        have g104 : (am_wr τ 106 (H e).toNat e) 104 = τ 104 := mx_wr_ne (by decide)
        rw [ix_89 (by omega) (by omega), (gg 89 (by decide)), a1]
        by_cases hk1 : K e = 1
        · rw [if_pos hk1, mo_tells_106_e, ix_89 (by omega) (by omega), Int.toNat_natCast, (gg 89 (by decide)), a1, if_pos (by omega), mo_tells_131_e, ix_89 (by omega) (by omega), Int.toNat_natCast, (gg 89 (by decide)), a1, if_pos (by omega), mo_tells_176_e, ix_89 (by omega) (by omega), Int.toNat_natCast, (gg 89 (by decide)), a1, if_pos hk1, ix_90 (by omega) (by omega), (gg 90 (by decide)), a2]
          have ht := kk.2.2.1 hk1
          rw [ix_85 (by omega) (by omega), (gg 85 (by decide)), (hT.2.1 (P e).toNat (by omega)).1]
          refine fin 0 0 _ (fun h => absurd hk1 h) (fun h => by omega) ?_
          unfold mx_rb
          rw [if_pos hk1]
          have e1 : (4 * P e).toNat = 4 * (P e).toNat := by omega
          rw [e1]
        · obtain ⟨x1, x2, x3⟩ := (aa.2.2.2 hH).2.1 hk1
          have hXn : X e ≠ -1 := fun z => hk1 ((kk.2.2.2.2.2 hH).1.mpr z)
          have hX : 0 ≤ X e ∧ X e < g := by rcases s2 with z | z; exact absurd z hXn; exact ⟨z.1, z.2.1⟩
          obtain ⟨g1, g2, g3⟩ := hg1 _ hXn (ll.1 hXn) hX.1 hX.2
          rw [if_neg hk1, ix_91 (by omega) (by omega), (gg 91 (by decide)), root _ _ (gg 94 (by decide)) x1 x2, Option.bind_some, x3]
          dsimp only
          rw [mo_tells_106_e, ix_89 (by omega) (by omega), Int.toNat_natCast, (gg 89 (by decide)), a1]
          by_cases hk5 : K e < 5
          · rw [if_pos hk5, mo_tells_131_e, ix_89 (by omega) (by omega), Int.toNat_natCast, (gg 89 (by decide)), a1, if_pos hk5, mo_tells_176_e]
            simp only [Int.toNat_natCast, (gg 89 (by decide)), (gg 90 (by decide)), a1, a2]
            rw [ix_89 (by omega) (by omega), if_neg hk1, ix_89 (by omega) (by omega)]
            by_cases hk3 : K e = 3
            · rw [if_pos hk3, ix_104 hX.1 (by omega), ix_90 (by omega) (by omega), g104, g1]
              have hd10 := mx_tdiv_rg (a := mx_rF TF D K P X Y H e (X e).toNat) (b := 10) (by omega) (by decide)
              have hd2 := mx_tdiv_rg (a := mx_rF TF D K P X Y H e (X e).toNat) (b := 2) (by omega) (by decide)
              rw [mx_w_id (z := Int.tdiv _ 10) (by omega) (by omega), mx_w_id (z := Int.tdiv _ 2) (by omega) (by omega)]
              have e1 : mx_rb TF D (K e) (P e) (if X e < 0 then 0 else mx_rF TF D K P X Y H e (X e).toNat) (if Y e < 0 then 0 else mx_rF TF D K P X Y H e (Y e).toNat) = if Int.tmod (P e) 2 = 0 then Int.tdiv (mx_rF TF D K P X Y H e (X e).toNat) 10 else Int.tdiv (mx_rF TF D K P X Y H e (X e).toNat) 2 := by
                unfold mx_rb
                rw [if_neg hk1, if_pos hk3, if_neg (show ¬ X e < 0 by omega)]
              by_cases hp : Int.tmod (P e) 2 = 0
              · rw [if_pos hp]
                exact fin (X e) 0 _ (fun _ => ⟨hX.1, hX.2, rfl⟩) (fun h => by omega) (by rw [e1, if_pos hp])
              · rw [if_neg hp]
                exact fin (X e) 0 _ (fun _ => ⟨hX.1, hX.2, rfl⟩) (fun h => by omega) (by rw [e1, if_neg hp])
            · have hk4 : K e = 4 := by rcases kk.1 with z | z | z | z | z <;> omega
              have hp4 := kk.2.2.2.1 (by omega)
              rw [if_neg hk3, ix_89 (by omega) (by omega), if_pos hk4, ix_104 hX.1 (by omega), ix_90 (by omega) (by omega), ix_84 (by omega) (by omega), g104, g1, (gg 84 (by decide)), hT.2.2 (P e).toNat (by omega)]
              refine fin (X e) 0 _ (fun _ => ⟨hX.1, hX.2, rfl⟩) (fun h => by omega) ?_
              unfold mx_rb
              rw [if_neg hk1, if_neg hk3, if_pos hk4, if_neg (show ¬ X e < 0 by omega)]
          · obtain ⟨y1, y2, y3⟩ := (aa.2.2.2 hH).2.2.2.1 (by omega)
            have hYn : Y e ≠ -1 := fun z => hk5 ((kk.2.2.2.2.2 hH).2.mpr z)
            have hY : 0 ≤ Y e ∧ Y e < g := by rcases s3 with z | z; exact absurd z hYn; exact ⟨z.1, z.2.1⟩
            obtain ⟨p1, p2, p3⟩ := hg1 _ hYn (ll.2 hYn) hY.1 hY.2
            have hp4 := kk.2.2.2.1 (by omega)
            have hD := w1.2.2 (P e).toNat (by omega)
            have hmul := mx_mul_rg (a := mx_rF TF D K P X Y H e (X e).toNat) (b := mx_rF TF D K P X Y H e (Y e).toNat) ⟨by omega, by omega⟩ ⟨by omega, by omega⟩
            have hdv := mx_tdiv_rg (b := D (P e).toNat) hmul.1 (by omega)
            rw [if_neg hk5, ix_92 (by omega) (by omega), (gg 92 (by decide)), root _ _ (gg 94 (by decide)) y1 y2, Option.bind_some, y3]
            dsimp only
            rw [mo_tells_131_e, ix_89 (by omega) (by omega), Int.toNat_natCast, (gg 89 (by decide)), a1, if_neg hk5, ix_104 hX.1 (by omega), ix_104 hY.1 (by omega), ix_90 (by omega) (by omega), (gg 90 (by decide)), a2, ix_84 (by omega) (by omega), (gg 84 (by decide)), g104, hT.2.2 (P e).toNat (by omega), mx_if_t (by omega), g1, p1, mx_x_id (z := _ * _) (by omega) (by omega), mx_x_id (z := Int.tdiv _ _) (by omega) (by omega)]
            rw [mo_tells_176_e]
            simp only [Int.toNat_natCast, (gg 89 (by decide)), (gg 90 (by decide)), a1, a2, mx_swap]
            rw [ix_89 (by omega) (by omega), if_neg hk1, ix_89 (by omega) (by omega), if_neg (by omega), ix_89 (by omega) (by omega), if_neg (by omega), ix_89 (by omega) (by omega)]
            have e1 : mx_rb TF D (K e) (P e) (if X e < 0 then 0 else mx_rF TF D K P X Y H e (X e).toNat) (if Y e < 0 then 0 else mx_rF TF D K P X Y H e (Y e).toNat) = if K e = 6 then am_mn (mx_rF TF D K P X Y H e (X e).toNat) (am_mn 1000000 (am_mx 1 (Int.tdiv (mx_rF TF D K P X Y H e (X e).toNat * mx_rF TF D K P X Y H e (Y e).toNat) (D (P e).toNat)))) else am_mn 1000000 (am_mx 1 (Int.tdiv (mx_rF TF D K P X Y H e (X e).toNat * mx_rF TF D K P X Y H e (Y e).toNat) (D (P e).toNat))) := by
              unfold mx_rb
              rw [if_neg hk1, if_neg (show ¬ K e = 3 by omega), if_neg (show ¬ K e = 4 by omega), if_neg (show ¬ X e < 0 by omega), if_neg (show ¬ Y e < 0 by omega)]
            by_cases hk : K e = 5
            · rw [if_pos hk]
              exact fin (X e) (Y e) _ (fun _ => ⟨hX.1, hX.2, rfl⟩) (fun _ => ⟨hY.1, hY.2, rfl⟩) (by rw [e1, if_neg (by omega)])
            · have hk6 : K e = 6 := by rcases kk.1 with z | z | z | z | z <;> omega
              rw [if_neg hk, ix_104 hX.1 (by omega), g104, g1]
              exact fin (X e) (Y e) _ (fun _ => ⟨hX.1, hX.2, rfl⟩) (fun _ => ⟨hY.1, hY.2, rfl⟩) (by rw [e1, if_pos hk6])
      · rw [if_neg q, mx_w_nat (by omega)]
        exact ih (e + 1) τ (by omega) (mx_so_same hs fun i hi z => q (by rw [show (H e).toNat = i by omega]; exact z.2))
/-- rows, columns, first expressions of all groups -/
theorem mo_tells_s (hW : mx_W tn m g TF D K P X Y H T C) (hR : mx_R m g K P X Y H T σ) (hT : mx_RT tn TF D σ) (d n : Nat) :
    ∃ τ : am_M, mo_tells (d + 2) σ n = some (0, τ, n) ∧ mx_Fr [104, 105, 106] σ τ ∧ ∀ i : Nat, (i : Int) < g → T i = i → τ 104 i = mx_Rw m TF D K P X Y H i ∧ τ 105 i = C i ∧ τ 106 i = mx_Ls m H i := by
  have h0 := hW.2.1
  obtain ⟨τ0, p1, p2, p3⟩ := mo_tells_2_s (d + 1) n g.toNat 0 σ (by rw [hR.2.2.2.1]; omega) (by rw [hR.2.2.2.1]; omega) (fun j h => by omega)
  obtain ⟨τ, q1, q2, q3⟩ := mo_tells_25_s hW hR hT d n m.toNat 0 τ0 (by omega) ⟨mx_fr_up p2 (by decide), fun i hi => ⟨p3 i (by rw [hR.2.2.2.1]; exact hi), fun h => absurd rfl h⟩⟩
  refine ⟨τ, by rw [mo_tells_e]; exact p1.trans q1, q2, fun i hi hT2 => ?_⟩
  obtain ⟨e, e1, e2⟩ := hW.2.2.2.2.2.1 i hi hT2
  obtain ⟨r1, r2⟩ := q3 i hi
  obtain ⟨r3, r4⟩ := r2 ((mx_lF_iff m.toNat i).mpr ⟨e, by omega, e2⟩)
  exact ⟨r3, r4, r1⟩
end
