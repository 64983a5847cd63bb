/-! WAYS told one behind the other -/
def mx_P37 : List (Nat × Nat) := [(37, 6), (37, 7), (37, 8), (37, 9), (37, 10), (37, 11), (37, 12), (37, 13), (37, 14), (37, 15)]
section
variable {n : Nat} {σ : am_M} {al g o p : Int} {C : List Nat} {P : List (Nat × Nat)}
theorem mx_wp_fr {σ' : am_M} (h : mx_Fq C P σ σ') (hd : mx_dj C P mx_SW mx_QW = true) : (∀ al o p e s, mx_we σ' al o p e s = mx_we σ al o p e s) ∧ (∀ al g o p t a, mx_wm σ' al g o p t a = mx_wm σ al g o p t a) ∧ (∀ al g o p, mx_wst σ' al g o p = mx_wst σ al g o p) ∧ (∀ al g o p, mx_wsp σ' al g o p = mx_wsp σ al g o p) ∧ (∀ al o p e s, mx_sl σ' al o p e s = mx_sl σ al o p e s) := by
  have e := mx_cR_fr h hd
  have e3 : σ' 3 = σ 3 := mx_dj_c h hd (by decide)
  have e5 : σ' 5 = σ 5 := mx_dj_c h hd (by decide)
  have e6 : σ' 6 = σ 6 := mx_dj_c h hd (by decide)
  have e7 : σ' 7 = σ 7 := mx_dj_c h hd (by decide)
  have e8 : σ' 8 = σ 8 := mx_dj_c h hd (by decide)
  have e9 : σ' 9 = σ 9 := mx_dj_c h hd (by decide)
  have e11 : σ' 11 = σ 11 := mx_dj_c h hd (by decide)
  have p1 : ∀ e i, mx_pe σ' e i = mx_pe σ e i := fun x i => by unfold mx_pe; rw [e, e5, e7, e8, e9]
  have p2 : ∀ g i, mx_pg σ' g i = mx_pg σ g i := fun x i => by unfold mx_pg; rw [e]
  have s1 : ∀ al o p x s, mx_sl σ' al o p x s = mx_sl σ al o p x s := fun al o p x s => by
    unfold mx_sl
    rw [e3, e5, e6, e7, e8]
    simp only [p1]
  have w1 : ∀ al o p x s, mx_we σ' al o p x s = mx_we σ al o p x s := fun al o p x s => by unfold mx_we; rw [e5, show mx_sl σ' al o p x = mx_sl σ al o p x from funext fun s => s1 al o p x s]
  refine ⟨w1, fun al g o p t => ?_, fun al g o p => ?_, fun al g o p => ?_, s1⟩
  · induction t with
    | zero => intro a; rfl
    | succ t ih => intro a; show (if σ' 9 a = g then mx_we σ' al o p a 0 else []) ++ mx_wm σ' al g o p t (a + 1) = _; rw [e9, w1, ih]; rfl
  · unfold mx_wst; rw [e11, p2]
  · unfold mx_wsp; rw [e11, p2]
theorem mx_we_S {e s : Nat} (hs : s < mx_slots (σ 5 e)) : mx_we σ al o p e s = (match mx_sl σ al o p e s with | some w => [w] | none => []) ++ mx_we σ al o p e (s + 1) := by
  unfold mx_we
  obtain ⟨k, hk⟩ : ∃ k, mx_slots (σ 5 e) - s = k + 1 := ⟨mx_slots (σ 5 e) - s - 1, by omega⟩
  have hk2 : mx_slots (σ 5 e) - (s + 1) = k := by omega
  rw [hk, hk2, List.range_succ_eq_map, List.map_cons, List.map_map, List.filterMap_cons, Nat.add_zero]
  have e1 : ((s + ·) ∘ Nat.succ : Nat → Nat) = (s + 1 + ·) := funext fun x => by show s + (x + 1) = s + 1 + x; omega
  rw [e1]
  cases mx_sl σ al o p e s <;> rfl
theorem mx_we_0 {e s : Nat} (hs : mx_slots (σ 5 e) ≤ s) : mx_we σ al o p e s = [] := by
  unfold mx_we
  rw [show mx_slots (σ 5 e) - s = 0 by omega]
  rfl
theorem mx_wm_nx (g : Nat) : ∀ (t a : Nat), ((a + t : Nat) : Int) = σ 2 3 → mx_wm σ al g o p t a = (if mx_nx (σ 2 3) (σ 9) g a = σ 2 3 then [] else mx_we σ al o p (mx_nx (σ 2 3) (σ 9) g a).toNat 0 ++ mx_wm σ al g o p ((σ 2 3).toNat - (mx_nx (σ 2 3) (σ 9) g a).toNat - 1) ((mx_nx (σ 2 3) (σ 9) g a).toNat + 1)) := by
  intro t
  induction t with
  | zero =>
    intro a ha
    have : mx_nx (σ 2 3) (σ 9) g a = σ 2 3 := mx_nx_none fun j h1 h2 => by omega
    rw [if_pos this]; rfl
  | succ t ih =>
    intro a ha
    show (if σ 9 a = (g : Int) then mx_we σ al o p a 0 else []) ++ mx_wm σ al g o p t (a + 1) = _
    by_cases q : σ 9 a = (g : Int)
    · have e : mx_nx (σ 2 3) (σ 9) g a = a := mx_nx_some (Nat.le_refl _) (by omega) q (fun j h1 h2 => by omega)
      rw [if_pos q, e, if_neg (by omega), Int.toNat_natCast, show (σ 2 3).toNat - a - 1 = t by omega]
    · have e : mx_nx (σ 2 3) (σ 9) g a = mx_nx (σ 2 3) (σ 9) g (a + 1) := by
        rcases mx_nx_c (m := σ 2 3) (H := σ 9) (g := (g : Int)) (f := a + 1) (by omega) with ⟨h1, h2⟩ | ⟨x, h1, h2, h3, h4, h5⟩
        · rw [h1]
          refine mx_nx_none fun j j1 j2 => ?_
          by_cases z : j = a
          · rw [z]; exact q
          · exact h2 j (by omega) j2
        · rw [h1]
          refine mx_nx_some (by omega) h3 h4 fun j j1 j2 => ?_
          by_cases z : j = a
          · rw [z]; exact q
          · exact h5 j (by omega) j2
      rw [if_neg q, List.nil_append, e]
      exact ih (a + 1) (by omega)
/-- how far the ways are told -/
def mx_ws (σ : am_M) (d : Nat) (R : List mx_wt) (M : Nat) : Prop := σ 37 6 = (d / 30 : Nat) ∧ σ 37 7 = ((d % 30 / 6 : Nat) : Int) - 1 ∧ σ 37 8 = ((d % 6 : Nat) : Int) - 1 ∧ ∃ e s : Nat, σ 37 9 = e ∧ σ 37 10 = s ∧
  (((e : Int) < σ 2 3 ∧ σ 9 e = (d / 30 : Nat) ∧ s ≤ mx_slots (σ 5 e) ∧ R = mx_we σ (σ 37 5) (((d % 30 / 6 : Nat) : Int) - 1) (((d % 6 : Nat) : Int) - 1) e s ++ (mx_wm σ (σ 37 5) (d / 30 : Nat) (((d % 30 / 6 : Nat) : Int) - 1) (((d % 6 : Nat) : Int) - 1) ((σ 2 3).toNat - e - 1) (e + 1) ++ (mx_wst σ (σ 37 5) (d / 30 : Nat) (((d % 30 / 6 : Nat) : Int) - 1) (((d % 6 : Nat) : Int) - 1) ++ mx_wsp σ (σ 37 5) (d / 30 : Nat) (((d % 30 / 6 : Nat) : Int) - 1) (((d % 6 : Nat) : Int) - 1))) ∧ M = 7 * ((σ 2 3).toNat - e) + (7 - s) + 3) ∨
   ((e : Int) = σ 2 3 ∧ s ≤ 3 ∧ R = (if s = 0 then mx_wst σ (σ 37 5) (d / 30 : Nat) (((d % 30 / 6 : Nat) : Int) - 1) (((d % 6 : Nat) : Int) - 1) ++ mx_wsp σ (σ 37 5) (d / 30 : Nat) (((d % 30 / 6 : Nat) : Int) - 1) (((d % 6 : Nat) : Int) - 1) else if s = 1 then mx_wsp σ (σ 37 5) (d / 30 : Nat) (((d % 30 / 6 : Nat) : Int) - 1) (((d % 6 : Nat) : Int) - 1) else []) ∧ M = 3 - s))
def mx_S37 : List (Nat × Nat) := [(2, 3), (2, 9), (37, 5), (37, 6), (37, 7), (37, 8), (37, 9), (37, 10)]
theorem mx_ws_fr {σ' : am_M} {d : Nat} {R : List mx_wt} {M : Nat} (h : mx_Fq C P σ σ') (hd : mx_dj C P mx_SW mx_S37 = true) (hw : mx_ws σ d R M) : mx_ws σ' d R M := by
  have hd2 : mx_dj C P mx_SW mx_QW = true := by
    unfold mx_dj at hd ⊢
    rw [Bool.and_eq_true] at hd ⊢
    refine ⟨hd.1, ?_⟩
    have := List.all_eq_true.mp hd.2
    rw [List.all_eq_true]
    intro q hq
    exact this q (by unfold mx_QW at hq; unfold mx_S37; simp only [List.mem_cons, List.not_mem_nil, or_false] at hq ⊢; rcases hq with r | r <;> simp [r])
  obtain ⟨e1, e2, e3, e4, -⟩ := mx_wp_fr h hd2
  have f5 : σ' 5 = σ 5 := mx_dj_c h hd2 (by decide)
  have f9 : σ' 9 = σ 9 := mx_dj_c h hd2 (by decide)
  have f23 : σ' 2 3 = σ 2 3 := mx_dj_f h hd (by decide)
  unfold mx_ws at hw ⊢
  rw [mx_dj_f h hd (i := 37) (j := 5) (by decide), mx_dj_f h hd (i := 37) (j := 6) (by decide), mx_dj_f h hd (i := 37) (j := 7) (by decide), mx_dj_f h hd (i := 37) (j := 8) (by decide), mx_dj_f h hd (i := 37) (j := 9) (by decide), mx_dj_f h hd (i := 37) (j := 10) (by decide), f5, f9, f23]
  obtain ⟨h1, h2, h3, e, s, h4, h5, h6⟩ := hw
  refine ⟨h1, h2, h3, e, s, h4, h5, ?_⟩
  rw [e1, e2, e3, e4]
  exact h6
theorem wa_offersSort_s (hg : mx_gd σ) (hP : mx_Pv σ) (d g : Nat) (hgg : (g : Int) < σ 2 9) (hr : σ 10 g = g) (h6 : σ 37 6 = g) (h7 : σ 37 7 = o) (h8 : σ 37 8 = p) (hp : -1 ≤ p ∧ p ≤ 4) : ∃ σ' : am_M, mx_Fq [] mx_P5 σ σ' ∧
    ((mx_wst σ (σ 37 5) g o p = [] ∧ wa_offersSort (d + 3) σ n = some (0, σ', n)) ∨ ∃ w, mx_wst σ (σ 37 5) g o p = [w] ∧ w.2.1 = -1 ∧ wa_offersSort (d + 3) σ n = some (1, σ', n) ∧ mx_tl5 w σ') := by
  have h64 := hg.2.1
  have w2 := hg.1.2.1
  have G : (0 : Int) ≤ g ∧ (g : Int) < 1000 := ⟨by omega, by omega⟩
  have I : (0 : Int) ≤ ((2 * g : Nat) : Int) ∧ ((2 * g : Nat) : Int) < 128 := ⟨by omega, by omega⟩
  have pr : σ 42 (2 * g) = mx_pg σ g 0 := (hP.2 g hgg hr).1
  have gg : 0 ≤ (g : Int) ∧ (g : Int) < σ 2 9 := ⟨by omega, hgg⟩
  obtain ⟨σ4, h4⟩ : ∃ σ4, σ4 = am_wr (am_wr (am_wr (am_wr σ 37 11 10) 37 12 (-1)) 37 13 ((g : Int) * 30 + (-1 + 1) * 6 + p + 1)) 37 14 (-1) := ⟨_, rfl⟩
  have k4 : ∀ j, j < 11 → σ4 37 j = σ 37 j := fun j q => by rw [h4, mx_wr_off (by omega), mx_wr_off (by omega), mx_wr_off (by omega), mx_wr_off (by omega)]
  have c4 : ∀ i, i ≠ 37 → σ4 i = σ i := fun i q => by rw [h4, mx_wr_ne q, mx_wr_ne q, mx_wr_ne q, mx_wr_ne q]
  have y6 : (am_wr (am_wr σ 37 11 10) 37 12 (-1)) 37 6 = g := by rw [mx_wr_off (by decide), mx_wr_off (by decide)]; exact h6
  have y8 : (am_wr (am_wr σ 37 11 10) 37 12 (-1)) 37 8 = p := by rw [mx_wr_off (by decide), mx_wr_off (by decide)]; exact h8
  have ie : am_w ((g : Int) * 2) = ((2 * g : Nat) : Int) := by rw [mx_w_id (by omega) (by omega)]; omega
  rw [wa_offersSort_e, mx_m, mx_m, y6, y8, pm_demandOf_s _ _ _ _ _ _ G ⟨by decide, by decide⟩ hp, Option.bind_some, mx_m]
  dsimp only
  rw [mx_m, ← h4]
  simp only [k4 6 (by decide), h6]
  rw [ie, ix_42 I.1 I.2, mx_m, Int.toNat_natCast, c4 42 (by decide), pr, wa_isAllowed_s]
  clear ie
  obtain ⟨σ5, h5⟩ : ∃ σ5, σ5 = am_wr σ4 37 15 (mx_pg σ g 0) := ⟨_, rfl⟩
  have k5 : ∀ j, j < 11 → σ5 37 j = σ 37 j := fun j q => by rw [h5, mx_wr_off (by omega), k4 j q]
  have c5 : ∀ i, i ≠ 37 → σ5 i = σ i := fun i q => by rw [h5, mx_wr_ne q, c4 i q]
  have F5 : mx_Fq [] mx_P5 σ σ5 := by rw [h5, h4]; exact mx_fq_wr (mx_fq_wr (mx_fq_wr (mx_fq_wr (mx_fq_wr mx_fq_rf rfl) rfl) rfl) rfl) rfl
  rw [← h5, k5 5 (by decide), Option.bind_some]
  refine ⟨σ5, F5, ?_⟩
  unfold mx_wst
  rw [Int.toNat_natCast]
  cases a1 : mx_alw (σ 37 5) 10 with
  | false => exact Or.inl ⟨rfl, rfl⟩
  | true =>
    dsimp only
    rw [mx_bT, k5 6 (by decide), h6, me_columnsOf_s _ _ _ _ (by rw [c5 2 (by decide)]; omega), Option.bind_some, c5 2 (by decide), c5 11 (by decide), if_pos gg, Int.toNat_natCast]
    dsimp only
    rw [k5 7 (by decide), h7, pm_hasColumn_s, Option.bind_some]
    cases a2 : mx_hc (σ 11 g) o with
    | false => exact Or.inl ⟨rfl, rfl⟩
    | true =>
      refine Or.inr ⟨_, rfl, rfl, rfl, ?_⟩
      rw [h5, h4]
      refine ⟨?_, ?_, ?_, ?_, ?_⟩
      · rw [mx_wr_off (by decide), mx_wr_off (by decide), mx_wr_off (by decide), mx_wr_off (by decide), mx_wr_at]
      · rw [mx_wr_off (by decide), mx_wr_off (by decide), mx_wr_at]; rfl
      · rw [mx_wr_off (by decide), mx_wr_at]
      · rw [mx_wr_off (by decide), mx_wr_off (by decide), mx_wr_off (by decide), mx_wr_at]
      · rw [mx_wr_at]
theorem wa_offersShip_s (hg : mx_gd σ) (hP : mx_Pv σ) (d g : Nat) (hgg : (g : Int) < σ 2 9) (hr : σ 10 g = g) (h6 : σ 37 6 = g) (h7 : σ 37 7 = o) (h8 : σ 37 8 = p) : ∃ σ' : am_M, mx_Fq [] mx_P5 σ σ' ∧
    ((mx_wsp σ (σ 37 5) g o p = [] ∧ wa_offersShip (d + 3) σ n = some (0, σ', n)) ∨ ∃ w, mx_wsp σ (σ 37 5) g o p = [w] ∧ w.2.1 = -1 ∧ wa_offersShip (d + 3) σ n = some (1, σ', n) ∧ mx_tl5 w σ') := by
  have h64 := hg.2.1
  have w2 := hg.1.2.1
  have G : (0 : Int) ≤ g ∧ (g : Int) < 1000 := ⟨by omega, by omega⟩
  have I : (0 : Int) ≤ ((2 * g + 1 : Nat) : Int) ∧ ((2 * g + 1 : Nat) : Int) < 128 := ⟨by omega, by omega⟩
  have pr : σ 42 (2 * g + 1) = mx_pg σ g 1 := (hP.2 g hgg hr).2
  have gg : 0 ≤ (g : Int) ∧ (g : Int) < σ 2 9 := ⟨by omega, hgg⟩
  obtain ⟨σ4, h4⟩ : ∃ σ4, σ4 = am_wr (am_wr (am_wr (am_wr σ 37 11 11) 37 12 (-1)) 37 13 ((g : Int) * 30 + (-1 + 1) * 6 + (-1) + 1)) 37 14 (-1) := ⟨_, rfl⟩
  have k4 : ∀ j, j < 11 → σ4 37 j = σ 37 j := fun j q => by rw [h4, mx_wr_off (by omega), mx_wr_off (by omega), mx_wr_off (by omega), mx_wr_off (by omega)]
  have c4 : ∀ i, i ≠ 37 → σ4 i = σ i := fun i q => by rw [h4, mx_wr_ne q, mx_wr_ne q, mx_wr_ne q, mx_wr_ne q]
  have y6 : (am_wr (am_wr σ 37 11 11) 37 12 (-1)) 37 6 = g := by rw [mx_wr_off (by decide), mx_wr_off (by decide)]; exact h6
  have ie : am_w (am_w ((g : Int) * 2) + 1) = ((2 * g + 1 : Nat) : Int) := by rw [mx_w_id (z := (g : Int) * 2) (by omega) (by omega), mx_w_id (by omega) (by omega)]; omega
  rw [wa_offersShip_e, mx_m, mx_m, y6, pm_demandOf_s _ _ _ _ _ _ G ⟨by decide, by decide⟩ ⟨by decide, by decide⟩, Option.bind_some, mx_m]
  dsimp only
  rw [mx_m, ← h4]
  simp only [k4 6 (by decide), h6]
  rw [ie, ix_42 I.1 I.2, mx_m, Int.toNat_natCast, c4 42 (by decide), pr]
  clear ie
  obtain ⟨σ5, h5⟩ : ∃ σ5, σ5 = am_wr σ4 37 15 (mx_pg σ g 1) := ⟨_, rfl⟩
  have k5 : ∀ j, j < 11 → σ5 37 j = σ 37 j := fun j q => by rw [h5, mx_wr_off (by omega), k4 j q]
  have c5 : ∀ i, i ≠ 37 → σ5 i = σ i := fun i q => by rw [h5, mx_wr_ne q, c4 i q]
  have F5 : mx_Fq [] mx_P5 σ σ5 := by rw [h5, h4]; exact mx_fq_wr (mx_fq_wr (mx_fq_wr (mx_fq_wr (mx_fq_wr mx_fq_rf rfl) rfl) rfl) rfl) rfl
  have tl : mx_tl5 (11, -1, mx_dm g (-1) (-1), -1, -1, mx_pg σ g 1) σ5 := by
    rw [h5, h4]
    refine ⟨?_, ?_, ?_, ?_, ?_⟩
    · rw [mx_wr_off (by decide), mx_wr_off (by decide), mx_wr_off (by decide), mx_wr_off (by decide), mx_wr_at]
    · rw [mx_wr_off (by decide), mx_wr_off (by decide), mx_wr_at]; rfl
    · rw [mx_wr_off (by decide), mx_wr_at]
    · rw [mx_wr_off (by decide), mx_wr_off (by decide), mx_wr_off (by decide), mx_wr_at]
    · rw [mx_wr_at]
  rw [← h5]
  simp only [k5 8 (by decide), h8]
  refine ⟨σ5, F5, ?_⟩
  unfold mx_wsp
  rw [Int.toNat_natCast]
  have l80 : ∀ b : Bool, b = (decide (p = 4) || mx_hc (σ 11 g) p) → (((if mx_alw (σ 37 5) 11 && decide (o = -1) && (decide (p = 4) || mx_hc (σ 11 g) p) then [((11 : Int), (-1 : Int), mx_dm g (-1) (-1), (-1 : Int), (-1 : Int), mx_pg σ g 1)] else []) = ([] : List mx_wt) ∧ wa_offersShip_80 (d + 2) (mx_b b) σ5 n = some (0, σ5, n)) ∨ ∃ w, (if mx_alw (σ 37 5) 11 && decide (o = -1) && (decide (p = 4) || mx_hc (σ 11 g) p) then [((11 : Int), (-1 : Int), mx_dm g (-1) (-1), (-1 : Int), (-1 : Int), mx_pg σ g 1)] else []) = ([w] : List mx_wt) ∧ w.2.1 = -1 ∧ wa_offersShip_80 (d + 2) (mx_b b) σ5 n = some (1, σ5, n) ∧ mx_tl5 w σ5) := by
    intro b hb
    rw [← hb, wa_offersShip_80_e, wa_isAllowed_s, k5 5 (by decide), Option.bind_some]
    cases a1 : mx_alw (σ 37 5) 11 with
    | false => exact Or.inl ⟨rfl, rfl⟩
    | true =>
      dsimp only
      rw [mx_bT]
      simp only [k5 7 (by decide), h7]
      by_cases z : o = -1
      · rw [if_pos z, decide_eq_true z]
        cases b with
        | false => exact Or.inl ⟨rfl, rfl⟩
        | true => exact Or.inr ⟨_, rfl, rfl, rfl, tl⟩
      · rw [if_neg z, decide_eq_false z]
        exact Or.inl ⟨rfl, rfl⟩
  by_cases z : p = 4
  · rw [if_pos z]
    exact l80 true (by rw [decide_eq_true z]; rfl)
  · rw [if_neg z, k5 6 (by decide), h6, me_columnsOf_s _ _ _ _ (by rw [c5 2 (by decide)]; omega), Option.bind_some, c5 2 (by decide), c5 11 (by decide), if_pos gg, Int.toNat_natCast]
    dsimp only
    rw [k5 8 (by decide), h8, pm_hasColumn_s, Option.bind_some]
    cases a2 : mx_hc (σ 11 g) p with
    | false => 
      rw [a2] at l80
      exact l80 false (by rw [decide_eq_false z]; rfl)
    | true =>
      rw [a2] at l80
      exact l80 true (by rw [decide_eq_false z]; rfl)
end
