/-! WAYS, one by one -/
def mx_tl5 (w : mx_wt) (σ : am_M) : Prop := σ 37 11 = w.1 ∧ σ 37 13 = w.2.2.1 ∧ σ 37 14 = w.2.2.2.1 ∧ σ 37 12 = w.2.2.2.2.1 ∧ σ 37 15 = w.2.2.2.2.2
def mx_P5 : List (Nat × Nat) := [(37, 11), (37, 12), (37, 13), (37, 14), (37, 15)]
section
variable {n : Nat} {μ σ : am_M} {al o p : Int}
theorem wa_isAllowed_s (d : Nat) (k : Int) (σ : am_M) : wa_isAllowed (d + 1) k σ n = some (mx_b (mx_alw (σ 37 5) k), σ, n) := by
  rw [wa_isAllowed_e]
  unfold mx_alw
  by_cases h : am_and (am_shr (σ 37 5) k) 1 = 1
  · rw [if_pos h, decide_eq_true h]; rfl
  · rw [if_neg h, decide_eq_false h]; rfl
theorem pm_meets_m (d : Nat) (v w : Int) (σ : am_M) : pm_meets (d + 1) v w σ n = some (mx_b (mx_mt v w), σ, n) := pm_meets_s d v w σ n
theorem mx_kd_n {k : Int} (h : mx_kd k) : k = 1 ∨ k = 3 ∨ k = 4 ∨ k = 5 ∨ k = 6 := h
theorem wa_offersSingle_s (hg : mx_gd μ) (hP : mx_Pv μ) (d : Nat) (hc : ∀ i, i ≠ 37 → σ i = μ i) (hal : σ 37 5 = al) (e : Nat) (he : (e : Int) < μ 2 3) (hH : μ 9 e ≠ -1) (hk : μ 5 e = 1 ∨ μ 5 e = 3) (h9 : σ 37 9 = e) (h7 : σ 37 7 = o) (h8 : σ 37 8 = p) (ho : -1 ≤ o ∧ o ≤ 3) (hp : -1 ≤ p ∧ p ≤ 4) :
    ∃ σ' : am_M, wa_offersSingle (d + 4) σ n = some (mx_b (mx_sl μ al o p e 0).isSome, σ', n) ∧ mx_Fq [] mx_P5 σ σ' ∧ ∀ w, mx_sl μ al o p e 0 = some w → mx_tl5 w σ' := by
  have h64 := hg.2.1
  have w2 := hg.1.2.1
  have wt := hg.1.1.1
  have E : (0 : Int) ≤ e ∧ (e : Int) < 64 := ⟨by omega, by omega⟩
  have E3 : (0 : Int) ≤ ((3 * e : Nat) : Int) ∧ ((3 * e : Nat) : Int) < 192 := ⟨by omega, by omega⟩
  have e3 : am_w ((e : Int) * 3) = ((3 * e : Nat) : Int) := by rw [mx_w_id (by omega) (by omega)]; omega
  have k := hg.1.2.2.2.1 e he
  have s := hg.1.2.2.1.1 e he hH
  have pr : μ 41 (3 * e) = mx_pe μ e 0 := hP.1 e he hH 0 (by rcases hk with q | q <;> rw [q] <;> decide)
  obtain ⟨σ3, h3⟩ : ∃ σ3, σ3 = am_wr (am_wr (am_wr σ 37 12 (-1)) 37 14 (-1)) 37 15 (mx_pe μ e 0) := ⟨_, rfl⟩
  have c3 : ∀ i, i ≠ 37 → σ3 i = μ i := fun i q => by rw [h3, mx_wr_ne q, mx_wr_ne q, mx_wr_ne q, hc i q]
  have k3 : ∀ j, j < 11 → σ3 37 j = σ 37 j := fun j q => by rw [h3, mx_wr_off (by omega), mx_wr_off (by omega), mx_wr_off (by omega)]
  have F3 : mx_Fq [] mx_P5 σ σ3 := by rw [h3]; exact mx_fq_wr (mx_fq_wr (mx_fq_wr mx_fq_rf rfl) rfl) rfl
  have x12 : σ3 37 12 = -1 := by rw [h3, mx_wr_off (by decide), mx_wr_off (by decide), mx_wr_at]
  have x14 : σ3 37 14 = -1 := by rw [h3, mx_wr_off (by decide), mx_wr_at]
  have x15 : σ3 37 15 = mx_pe μ e 0 := by rw [h3, mx_wr_at]
  have start : ∀ (F : Option am_R) , True := fun _ => trivial
  have z1 : (am_wr (am_wr σ 37 12 (-1)) 37 14 (-1)) 37 9 = e := by rw [mx_wr_off (by decide), mx_wr_off (by decide)]; exact h9
  have z2 : (am_wr (am_wr σ 37 12 (-1)) 37 14 (-1)) 41 = μ 41 := by rw [mx_wr_ne (by decide), mx_wr_ne (by decide)]; exact hc 41 (by decide)
  rw [wa_offersSingle_e, h9, ix_6 E.1 E.2, mx_m, mx_m]
  simp only [z1, z2]
  rw [e3, ix_41 E3.1 E3.2, mx_m, Int.toNat_natCast, pr, ← h3]
  simp only [k3 9 (by decide), h9, Int.toNat_natCast]
  rw [ix_5 E.1 E.2, c3 5 (by decide)]
  unfold mx_sl
  by_cases k1 : μ 5 e = 1
  · simp only [if_pos k1]
    rw [mx_m, mx_m]
    obtain ⟨σ5, h5⟩ : ∃ σ5, σ5 = am_wr (am_wr σ3 37 11 1) 37 13 (-1) := ⟨_, rfl⟩
    have c5 : ∀ i, i ≠ 37 → σ5 i = μ i := fun i q => by rw [h5, mx_wr_ne q, mx_wr_ne q, c3 i q]
    have k5 : ∀ j, j ≠ 11 → j ≠ 13 → σ5 37 j = σ3 37 j := fun j q q' => by rw [h5, mx_wr_off q', mx_wr_off q]
    have F5 : mx_Fq [] mx_P5 σ σ5 := by rw [h5]; exact mx_fq_wr (mx_fq_wr F3 rfl) rfl
    rw [← h5, wa_isAllowed_s, k5 5 (by decide) (by decide), k3 5 (by decide), hal, Option.bind_some]
    have f2 : ∀ j : Int, 0 ≤ j → j < 4 → me_factOfTable (d + 3) (σ 6 e) j σ5 n = some (μ 3 (4 * μ 6 e + j).toNat, σ5, n) := fun j j0 j1 => by
      rw [me_factOfTable_s _ _ _ _ _ (by rw [c5 2 (by decide)]; exact wt.2), c5 2 (by decide), c5 3 (by decide), hc 6 (by decide), if_pos ⟨⟨k.2.1.1, k.2.2.1 k1⟩, j0, j1⟩]
    have tl : ∀ w, (some ((1 : Int), (e : Int), (-1 : Int), (-1 : Int), (-1 : Int), mx_pe μ e 0) : Option mx_wt) = some w → mx_tl5 w σ5 := by
      intro w hw
      cases hw
      refine ⟨by rw [h5, mx_wr_off (by decide), mx_wr_at], by rw [h5, mx_wr_at], ?_, ?_, ?_⟩
      · rw [k5 14 (by decide) (by decide)]; exact x14
      · rw [k5 12 (by decide) (by decide)]; exact x12
      · rw [k5 15 (by decide) (by decide)]; exact x15
    cases a1 : mx_alw al 1 with
    | false => exact ⟨σ5, rfl, F5, fun w hw => by cases hw⟩
    | true =>
      dsimp only
      rw [mx_bT, f2 2 (by decide) (by decide), Option.bind_some]
      dsimp only
      rw [pm_meets_m, Option.bind_some, k5 7 (by decide) (by decide), k3 7 (by decide), h7]
      cases a2 : mx_mt (μ 3 (4 * μ 6 e + 2).toNat) o with
      | false => exact ⟨σ5, rfl, F5, fun w hw => by cases hw⟩
      | true =>
        dsimp only
        rw [mx_bT, f2 3 (by decide) (by decide), Option.bind_some]
        dsimp only
        rw [pm_meets_m, Option.bind_some, k5 8 (by decide) (by decide), k3 8 (by decide), h8]
        cases a3 : mx_mt (μ 3 (4 * μ 6 e + 3).toNat) p with
        | false => exact ⟨σ5, rfl, F5, fun w hw => by cases hw⟩
        | true => exact ⟨σ5, rfl, F5, fun w hw => tl w hw⟩
  · have k3' : μ 5 e = 3 := by rcases hk with q | q; exact absurd q k1; exact q
    have kk := k.2.2.2.2.2 hH
    have x1 : μ 7 e ≠ -1 := fun q => k1 (kk.1.mpr q)
    have X : 0 ≤ μ 7 e ∧ μ 7 e < 1000 := by rcases s.2.1 with q | q; exact absurd q x1; exact ⟨q.1, by omega⟩
    simp only [if_neg k1, if_pos k3']
    rw [mx_m]
    have y9 : (am_wr σ3 37 11 2) 37 9 = e := by rw [mx_wr_off (by decide), k3 9 (by decide)]; exact h9
    have y7 : (am_wr σ3 37 11 2) 37 7 = o := by rw [mx_wr_off (by decide), k3 7 (by decide)]; exact h7
    have y8 : (am_wr σ3 37 11 2) 37 8 = p := by rw [mx_wr_off (by decide), k3 8 (by decide)]; exact h8
    have yx : (am_wr σ3 37 11 2) 7 = μ 7 := by rw [mx_wr_ne (by decide)]; exact c3 7 (by decide)
    simp only [y9, y7, y8, yx, Int.toNat_natCast]
    rw [ix_7 E.1 E.2, pm_demandOf_s _ _ _ _ _ _ X ho hp, Option.bind_some, mx_m]
    obtain ⟨σ5, h5⟩ : ∃ σ5, σ5 = am_wr (am_wr σ3 37 11 2) 37 13 (μ 7 e * 30 + (o + 1) * 6 + p + 1) := ⟨_, rfl⟩
    have k5 : ∀ j, j ≠ 11 → j ≠ 13 → σ5 37 j = σ3 37 j := fun j q q' => by rw [h5, mx_wr_off q', mx_wr_off q]
    have F5 : mx_Fq [] mx_P5 σ σ5 := by rw [h5]; exact mx_fq_wr (mx_fq_wr F3 rfl) rfl
    dsimp only
    rw [← h5, wa_isAllowed_s, k5 5 (by decide) (by decide), k3 5 (by decide), hal, Option.bind_some]
    dsimp only
    rw [mx_if_t mx_b_01]
    cases a1 : mx_alw al 2 with
    | false => exact ⟨σ5, rfl, F5, fun w hw => by cases hw⟩
    | true =>
      refine ⟨σ5, rfl, F5, fun w hw => ?_⟩
      cases hw
      refine ⟨by rw [h5, mx_wr_off (by decide), mx_wr_at], by rw [h5, mx_wr_at]; rfl, ?_, ?_, ?_⟩
      · rw [k5 14 (by decide) (by decide)]; exact x14
      · rw [k5 12 (by decide) (by decide)]; exact x12
      · rw [k5 15 (by decide) (by decide)]; exact x15
theorem mx_first_c : ∀ k : Nat, k < 7 → 4 ≤ k → am_kc 1005 k = mx_first (k : Int) ∧ am_kc 1006 k = (mx_slots (k : Int) : Nat) := by decide +kernel
theorem mx_slots_c : ∀ k : Nat, k < 7 → (k = 1 ∨ k = 3 ∨ 4 ≤ k) → am_kc 1006 k = (mx_slots (k : Int) : Nat) := by decide +kernel
theorem mx_tdm2 (s : Nat) : Int.tdiv (s : Int) 2 = ((s / 2 : Nat) : Int) ∧ Int.tmod (s : Int) 2 = ((s % 2 : Nat) : Int) := by
  constructor
  · rw [Int.tdiv_eq_ediv_of_nonneg (by omega)]; omega
  · rw [Int.tmod_eq_emod_of_nonneg (by omega)]; omega
theorem wa_offersAt_s (hg : mx_gd μ) (hP : mx_Pv μ) (d : Nat) (hc : ∀ i, i ≠ 37 → σ i = μ i) (hal : σ 37 5 = al) (e s : Nat) (he : (e : Int) < μ 2 3) (hH : μ 9 e ≠ -1) (hk : 4 ≤ μ 5 e) (hs : s < mx_slots (μ 5 e)) (h9 : σ 37 9 = e) (h7 : σ 37 7 = o) (h8 : σ 37 8 = p) (ho : -1 ≤ o ∧ o ≤ 3) (hp : -1 ≤ p ∧ p ≤ 4) :
    ∃ σ' : am_M, wa_offersAt (d + 4) s σ n = some (mx_b (mx_sl μ al o p e s).isSome, σ', n) ∧ mx_Fq [] mx_P5 σ σ' ∧ ∀ w, mx_sl μ al o p e s = some w → mx_tl5 w σ' := by
  have h64 := hg.2.1
  have w2 := hg.1.2.1
  have E : (0 : Int) ≤ e ∧ (e : Int) < 64 := ⟨by omega, by omega⟩
  have col := mx_col hg e he hH (by omega)
  have kd := mx_kd_n col.2.2.2.2.2.2.2.2.2.1
  have k456 : μ 5 e = 4 ∨ μ 5 e = 5 ∨ μ 5 e = 6 := by omega
  have s6 : s < 6 := by
    have : mx_slots (μ 5 e) ≤ 6 := by rcases k456 with q | q | q <;> rw [q] <;> decide
    omega
  have X : 0 ≤ μ 7 e ∧ μ 7 e < 1000 := ⟨col.2.2.2.2.1.1, by have := col.2.2.2.2.1.2.1; omega⟩
  have c4 : 0 ≤ μ 6 e ∧ μ 6 e < 4 := ⟨col.2.2.2.2.2.2.2.2.2.2.1.1, col.2.2.2.2.2.2.2.2.2.2.2 hk⟩
  have fc := mx_first_c (μ 5 e).toNat (by omega) (by omega)
  rw [Int.toNat_of_nonneg (by omega)] at fc
  have fb : 4 ≤ mx_first (μ 5 e) ∧ mx_first (μ 5 e) ≤ 8 := by rcases k456 with q | q | q <;> rw [q] <;> decide
  have pr : μ 41 (3 * e + s / 2) = mx_pe μ e (s / 2) := hP.1 e he hH (s / 2) (by omega)
  obtain ⟨kk, hkk⟩ : ∃ kk, kk = mx_first (μ 5 e) + ((s / 2 : Nat) : Int) := ⟨_, rfl⟩
  have kb : 4 ≤ kk ∧ kk ≤ 11 := by omega
  obtain ⟨at', hat⟩ : ∃ at', at' = if s % 2 = 0 then μ 6 e else 4 := ⟨_, rfl⟩
  have atb : 0 ≤ at' ∧ at' ≤ 4 := by rw [hat]; split <;> omega
  have hkv : am_w (am_kc 1005 (μ 5 e).toNat + am_w (Int.tdiv (s : Int) 2)) = kk := by
    rw [fc.1, (mx_tdm2 s).1, mx_w_id (z := ((s / 2 : Nat) : Int)) (by omega) (by omega), mx_w_id (by omega) (by omega), hkk]
  obtain ⟨σ2, h2⟩ : ∃ σ2, σ2 = am_wr (am_wr σ 37 11 kk) 37 12 at' := ⟨_, rfl⟩
  have c2 : ∀ i, i ≠ 37 → σ2 i = μ i := fun i q => by rw [h2, mx_wr_ne q, mx_wr_ne q, hc i q]
  have k2 : ∀ j, j < 11 → σ2 37 j = σ 37 j := fun j q => by rw [h2, mx_wr_off (by omega), mx_wr_off (by omega)]
  have F2 : mx_Fq [] mx_P5 σ σ2 := by rw [h2]; exact mx_fq_wr (mx_fq_wr mx_fq_rf rfl) rfl
  have x11 : σ2 37 11 = kk := by rw [h2, mx_wr_off (by decide), mx_wr_at]
  have x12 : σ2 37 12 = at' := by rw [h2, mx_wr_at]
  -- the end
  have l150 : ∀ b : Bool, ∃ σ' : am_M, wa_offersAt_150 (d + 3) s (μ 6 e) (mx_b b) σ2 n = some (1, σ', n) ∧ mx_Fq [] mx_P5 σ σ' ∧ mx_tl5 (kk, (e : Int), mx_dm (μ 7 e) (if b = true then μ 6 e else o) at', (if μ 8 e = -1 then -1 else mx_dm (μ 8 e) (if b = true then μ 6 e else -1) at'), at', mx_pe μ e (s / 2)) σ' := by
    intro b
    have l176 : ∀ o1 : Int, o1 = (if b = true then μ 6 e else o) → ∃ σ' : am_M, wa_offersAt_176 (d + 3) s (μ 6 e) (mx_b b) (μ 7 e) o1 σ2 n = some (1, σ', n) ∧ mx_Fq [] mx_P5 σ σ' ∧ mx_tl5 (kk, (e : Int), mx_dm (μ 7 e) (if b = true then μ 6 e else o) at', (if μ 8 e = -1 then -1 else mx_dm (μ 8 e) (if b = true then μ 6 e else -1) at'), at', mx_pe μ e (s / 2)) σ' := by
      intro o1 ho1
      have o1b : -1 ≤ o1 ∧ o1 ≤ 3 := by rw [ho1]; split <;> omega
      rw [wa_offersAt_176_e, x12, pm_demandOf_s _ _ _ _ _ _ X o1b (by omega), Option.bind_some, mx_m]
      obtain ⟨σ3, h3⟩ : ∃ σ3, σ3 = am_wr σ2 37 13 (μ 7 e * 30 + (o1 + 1) * 6 + at' + 1) := ⟨_, rfl⟩
      dsimp only
      rw [← h3]
      have c3 : ∀ i, i ≠ 37 → σ3 i = μ i := fun i q => by rw [h3, mx_wr_ne q, c2 i q]
      have k3 : ∀ j, j ≠ 13 → σ3 37 j = σ2 37 j := fun j q => by rw [h3, mx_wr_off q]
      have y9 : σ3 37 9 = e := by rw [k3 9 (by decide), k2 9 (by decide)]; exact h9
      have l236 : ∀ v : Int, v = (if μ 8 e = -1 then -1 else mx_dm (μ 8 e) (if b = true then μ 6 e else -1) at') → ∃ σ' : am_M, wa_offersAt_236 (d + 3) s v σ3 n = some (1, σ', n) ∧ mx_Fq [] mx_P5 σ σ' ∧ mx_tl5 (kk, (e : Int), mx_dm (μ 7 e) (if b = true then μ 6 e else o) at', (if μ 8 e = -1 then -1 else mx_dm (μ 8 e) (if b = true then μ 6 e else -1) at'), at', mx_pe μ e (s / 2)) σ' := by
        intro v hv
        have q9 : (am_wr σ3 37 14 v) 37 9 = e := by rw [mx_wr_off (by decide)]; exact y9
        have q41 : (am_wr σ3 37 14 v) 41 = μ 41 := by rw [mx_wr_ne (by decide)]; exact c3 41 (by decide)
        have ib : (0 : Int) ≤ ((3 * e + s / 2 : Nat) : Int) ∧ ((3 * e + s / 2 : Nat) : Int) < 192 := ⟨by omega, by omega⟩
        have ie : am_w (am_w ((e : Int) * 3) + am_w (Int.tdiv (s : Int) 2)) = ((3 * e + s / 2 : Nat) : Int) := by
          rw [(mx_tdm2 s).1, mx_w_id (z := ((s / 2 : Nat) : Int)) (by omega) (by omega), mx_w_id (z := (e : Int) * 3) (by omega) (by omega), mx_w_id (by omega) (by omega)]
          omega
        rw [wa_offersAt_236_e, mx_m]
        simp only [q9, q41]
        rw [ie, ix_41 ib.1 ib.2, mx_m, Int.toNat_natCast, pr]
        refine ⟨_, rfl, ?_, ?_⟩
        · rw [h3]; exact mx_fq_wr (mx_fq_wr (mx_fq_wr F2 rfl) rfl) rfl
        · refine ⟨?_, ?_, ?_, ?_, ?_⟩
          · rw [mx_wr_off (by decide), mx_wr_off (by decide), k3 11 (by decide)]; exact x11
          · rw [mx_wr_off (by decide), mx_wr_off (by decide), h3, mx_wr_at, ho1]; rfl
          · rw [mx_wr_off (by decide), mx_wr_at]; exact hv
          · rw [mx_wr_off (by decide), mx_wr_off (by decide), k3 12 (by decide)]; exact x12
          · rw [mx_wr_at]
      rw [y9, ix_8 E.1 E.2, ix_8 E.1 E.2, Int.toNat_natCast, c3 8 (by decide)]
      by_cases y1 : μ 8 e = -1
      · rw [if_pos y1]
        exact l236 (-1) (by rw [if_pos y1])
      · have Y : 0 ≤ μ 8 e ∧ μ 8 e < 1000 := by
          rcases Int.lt_or_le (μ 5 e) 5 with q | q
          · exact absurd (col.2.2.2.2.2.2.1 q) y1
          · have := col.2.2.2.2.2.1 q; exact ⟨this.1, by omega⟩
        rw [if_neg y1, k3 12 (by decide), x12]
        cases b with
        | false =>
          rw [mx_bF, pm_demandOf_s _ _ _ _ _ _ Y (by omega) (by omega), Option.bind_some]
          exact l236 _ (by rw [if_neg y1, if_neg (by decide)]; rfl)
        | true =>
          rw [mx_bT, pm_demandOf_s _ _ _ _ _ _ Y (by omega) (by omega), Option.bind_some]
          exact l236 _ (by rw [if_neg y1, if_pos rfl]; rfl)
    rw [wa_offersAt_150_e, k2 9 (by decide), h9, ix_7 E.1 E.2, Int.toNat_natCast, c2 7 (by decide), k2 7 (by decide), h7]
    cases b with
    | false => rw [mx_bF]; exact l176 o rfl
    | true => rw [mx_bT]; exact l176 (μ 6 e) rfl
  -- what it is asked
  have l93 : ∀ u b : Bool, u = decide (kk = 4 ∨ kk = 8) → b = decide (kk = 5 ∨ kk = 9) → ∃ σ' : am_M, wa_offersAt_93 (d + 3) s (μ 6 e) (mx_b u) (mx_b b) σ2 n = some (mx_b (mx_sl μ al o p e s).isSome, σ', n) ∧ mx_Fq [] mx_P5 σ σ' ∧ ∀ w, mx_sl μ al o p e s = some w → mx_tl5 w σ' := by
    intro u b hu hb
    have sl : mx_sl μ al o p e s = (if mx_alw al kk && mx_mt at' p && (!u || decide (o = -1)) && (!b || mx_mt (μ 6 e) o) then some (kk, (e : Int), mx_dm (μ 7 e) (if b = true then μ 6 e else o) at', (if μ 8 e = -1 then -1 else mx_dm (μ 8 e) (if b = true then μ 6 e else -1) at'), at', mx_pe μ e (s / 2)) else none) := by
      unfold mx_sl
      rw [if_neg (by omega), if_neg (by omega), ← hkk, ← hat, hu, hb]
      simp only [decide_eq_true_eq]
    rw [sl, wa_offersAt_93_e, x11, wa_isAllowed_s, k2 5 (by decide), hal, Option.bind_some]
    cases a1 : mx_alw al kk with
    | false => exact ⟨σ2, rfl, F2, fun w hw => by cases hw⟩
    | true =>
      dsimp only
      rw [mx_bT, x12, k2 8 (by decide), h8, pm_meets_m, Option.bind_some]
      cases a2 : mx_mt at' p with
      | false => exact ⟨σ2, rfl, F2, fun w hw => by cases hw⟩
      | true =>
        dsimp only
        rw [mx_bT]
        simp only [k2 7 (by decide), h7]
        have fin : ∀ c : Bool, c = (!b || mx_mt (μ 6 e) o) → (∃ σ' : am_M, (if mx_b b = 0 then wa_offersAt_150 (d + 3) s (μ 6 e) (mx_b b) σ2 n else (pm_meets (d + 3) (μ 6 e) o σ2 n).bind fun q3 => if q3.1 = 0 then some (0, q3.2.1, q3.2.2) else wa_offersAt_150 (d + 3) s (μ 6 e) (mx_b b) q3.2.1 q3.2.2) = some (mx_b c, σ', n) ∧ mx_Fq [] mx_P5 σ σ' ∧ (c = true → mx_tl5 (kk, (e : Int), mx_dm (μ 7 e) (if b = true then μ 6 e else o) at', (if μ 8 e = -1 then -1 else mx_dm (μ 8 e) (if b = true then μ 6 e else -1) at'), at', mx_pe μ e (s / 2)) σ')) := by
          intro c hc'
          obtain ⟨σ', p1, p2, p3⟩ := l150 b
          cases b with
          | false =>
            rw [hc', mx_bF]
            exact ⟨σ', p1, p2, fun _ => p3⟩
          | true =>
            rw [mx_bT, pm_meets_m, Option.bind_some]
            cases a3 : mx_mt (μ 6 e) o with
            | false =>
              rw [hc', a3]
              exact ⟨σ2, rfl, F2, fun q => by cases q⟩
            | true =>
              rw [hc', a3]
              exact ⟨σ', p1, p2, fun _ => p3⟩
        obtain ⟨σ', p1, p2, p3⟩ := fin _ rfl
        cases u with
        | false =>
          rw [mx_bF]
          refine ⟨σ', ?_, p2, fun w hw => ?_⟩
          · rw [p1]
            cases hcc : (!b || mx_mt (μ 6 e) o) <;> simp [hcc]
          · cases hcc : (!b || mx_mt (μ 6 e) o) with
            | false => simp [hcc] at hw
            | true => simp [hcc] at hw; rw [← hw]; exact p3 hcc
        | true =>
          rw [mx_bT]
          by_cases z : o = -1
          · rw [if_pos z]
            refine ⟨σ', ?_, p2, fun w hw => ?_⟩
            · rw [p1]
              cases hcc : (!b || mx_mt (μ 6 e) o) <;> simp [hcc, z]
            · cases hcc : (!b || mx_mt (μ 6 e) o) with
              | false => rw [decide_eq_true z, hcc] at hw; cases hw
              | true => rw [decide_eq_true z, hcc] at hw; cases hw; exact p3 hcc
          · rw [if_neg z]
            refine ⟨σ2, ?_, F2, fun w hw => ?_⟩
            · simp [z]; rfl
            · simp [z] at hw
  rw [wa_offersAt_e, h9, ix_6 E.1 E.2, ix_5 E.1 E.2, Int.toNat_natCast, hc 5 (by decide), mx_cx_t 7 rfl (by omega) (by omega), mx_m, hkv, (mx_tdm2 s).2, hc 6 (by decide)]
  have l49 : ∃ σ' : am_M, wa_offersAt_49 (d + 3) s (μ 6 e) at' (am_wr σ 37 11 kk) n = some (mx_b (mx_sl μ al o p e s).isSome, σ', n) ∧ mx_Fq [] mx_P5 σ σ' ∧ ∀ w, mx_sl μ al o p e s = some w → mx_tl5 w σ' := by
    rw [wa_offersAt_49_e, mx_m, ← h2, x11, wa_offersAt_69_e]
    by_cases z4 : kk = 4
    · rw [if_pos z4]
      exact l93 true false (by rw [decide_eq_true (Or.inl z4)]) (by rw [decide_eq_false (by omega)])
    · rw [if_neg z4]
      by_cases z8 : kk = 8
      · rw [if_pos z8]
        exact l93 true false (by rw [decide_eq_true (Or.inr z8)]) (by rw [decide_eq_false (by omega)])
      · rw [if_neg z8]
        by_cases z6 : kk = 6
        · rw [if_pos z6]
          exact l93 false false (by rw [decide_eq_false (by omega)]) (by rw [decide_eq_false (by omega)])
        · rw [if_neg z6]
          have z59 : kk = 5 ∨ kk = 9 := by
            have sl2 : s < mx_slots (μ 5 e) := hs
            rcases k456 with q | q | q
            · rw [q] at hkk sl2
              have e1 : mx_first 4 = 8 := by decide
              have e2 : mx_slots 4 = 4 := by decide
              omega
            · rw [q] at hkk sl2
              have e1 : mx_first 5 = 4 := by decide
              have e2 : mx_slots 5 = 6 := by decide
              omega
            · rw [q] at hkk sl2
              have e1 : mx_first 6 = 4 := by decide
              have e2 : mx_slots 6 = 6 := by decide
              omega
          exact l93 false true (by rw [decide_eq_false (by omega)]) (by rw [decide_eq_true z59])
  by_cases z : s % 2 = 0
  · rw [if_pos (by omega)]
    rw [if_pos z] at hat
    rw [hat] at l49; exact l49
  · rw [if_neg (by omega)]
    rw [if_neg z] at hat
    rw [hat] at l49; exact l49
end
