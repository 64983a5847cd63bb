/-! the class links two groups -/
/-- a row in which hi has become lo, from place e up to m -/
def mx_rw (lo hi : Int) (e : Nat) (m : Int) (f : Nat → Int) : Nat → Int := fun j => if e ≤ j ∧ (j : Int) < m then mx_rn lo hi (f j) else f j
theorem mx_rw_none {lo hi m : Int} {e : Nat} {f : Nat → Int} (h : m ≤ e) : mx_rw lo hi e m f = f := funext fun j => if_neg (by omega)
theorem mx_rw_step {lo hi m : Int} {e : Nat} {f : Nat → Int} (h : (e : Int) < m) : mx_rw lo hi (e + 1) m (mx_up f e (mx_rn lo hi (f e))) = mx_rw lo hi e m f := funext fun j => by
  unfold mx_rw mx_up
  by_cases q : j = e
  · subst q
    rw [if_neg (by omega), if_pos rfl, if_pos (by omega)]
  · rw [if_neg q]
    by_cases r : e + 1 ≤ j ∧ (j : Int) < m
    · rw [if_pos r, if_pos (by omega)]
    · rw [if_neg r, if_neg (by omega)]
theorem mx_rw_in {lo hi m : Int} {f : Nat → Int} {j : Nat} (h : (j : Int) < m) : mx_rw lo hi 0 m f j = mx_rn lo hi (f j) := if_pos ⟨Nat.zero_le _, h⟩
theorem mx_rw_out {lo hi m : Int} {f : Nat → Int} {j : Nat} (h : m ≤ j) : mx_rw lo hi 0 m f j = f j := if_neg (by omega)
theorem me_mp_47 (d : Nat) (lo hi : Int) (n : Nat) : ∀ (t e : Nat) (σ : am_M), (e : Int) + t = σ 2 3 → σ 2 3 ≤ 64 → ∃ σ' : am_M, me_mergePair_47 d lo hi e σ n = me_mergePair_155 d lo hi 0 σ' n ∧ mx_Fr [7, 8, 9] σ σ' ∧ σ' 7 = mx_rw lo hi e (σ 2 3) (σ 7) ∧ σ' 8 = mx_rw lo hi e (σ 2 3) (σ 8) ∧ σ' 9 = mx_rw lo hi e (σ 2 3) (σ 9) := by
  intro t
  induction t with
  | zero =>
    intro e σ he hm
    refine ⟨σ, by rw [me_mergePair_47_e, if_neg (by omega)], mx_fr_rf, ?_, ?_, ?_⟩ <;> rw [mx_rw_none (by omega)]
  | succ t ih =>
    intro e σ he hm
    have key : me_mergePair_47 d lo hi e σ n = me_mergePair_47 d lo hi ((e + 1 : Nat) : Int) (am_wr (am_wr (am_wr σ 7 e (mx_rn lo hi (σ 7 e))) 8 e (mx_rn lo hi (σ 8 e))) 9 e (mx_rn lo hi (σ 9 e))) n := by
      have t9 : ∀ τ : am_M, τ 9 = σ 9 → (if τ 9 e = hi then am_ix 9 (e : Int) (am_m (am_wr τ 9 e lo) fun σ3 => me_mergePair_47 d lo hi (am_w ((e : Int) + 1)) σ3 n) else am_ix 9 (e : Int) (am_ix 9 (e : Int) (am_m (am_wr τ 9 e (τ 9 e)) fun σ2 => me_mergePair_47 d lo hi (am_w ((e : Int) + 1)) σ2 n))) = me_mergePair_47 d lo hi ((e + 1 : Nat) : Int) (am_wr τ 9 e (mx_rn lo hi (σ 9 e))) n := by
        intro τ ht
        rw [ht]
        by_cases q : σ 9 e = hi
        · rw [if_pos q, q, mx_rn_hi]
          simp (disch := first | omega | decide) only [ix_9, am_m, mx_w_id, Int.natCast_add, Int.natCast_one]
        · rw [if_neg q, mx_rn_ne q]
          simp (disch := first | omega | decide) only [ix_9, am_m, mx_w_id, Int.natCast_add, Int.natCast_one]
      have t8 : ∀ (τ : am_M) (v : Int), τ 9 = σ 9 → me_mergePair_115 d lo hi e e v τ n = me_mergePair_47 d lo hi ((e + 1 : Nat) : Int) (am_wr (am_wr τ 8 e v) 9 e (mx_rn lo hi (σ 9 e))) n := by
        intro τ v ht
        rw [me_mergePair_115_e]
        simp (disch := first | omega | decide) only [ix_8, ix_9, am_m, Int.toNat_natCast]
        have := t9 (am_wr τ 8 e v) (by simp (disch := first | omega | decide) only [mx_wr_ne, ht])
        simp (disch := first | omega | decide) only [ix_9] at this ⊢
        exact this
      have t7 : ∀ (τ : am_M) (v : Int), τ 9 = σ 9 → τ 8 = σ 8 → me_mergePair_85 d lo hi e e v τ n = me_mergePair_47 d lo hi ((e + 1 : Nat) : Int) (am_wr (am_wr (am_wr τ 7 e v) 8 e (mx_rn lo hi (σ 8 e))) 9 e (mx_rn lo hi (σ 9 e))) n := by
        intro τ v ht ht2
        rw [me_mergePair_85_e]
        simp (disch := first | omega | decide) only [ix_7, ix_8, am_m, Int.toNat_natCast, mx_wr_ne, ht2]
        by_cases q : σ 8 e = hi
        · rw [if_pos q, t8 _ _ (by simp (disch := first | omega | decide) only [mx_wr_ne, ht]), q, mx_rn_hi]
        · rw [if_neg q, t8 _ _ (by simp (disch := first | omega | decide) only [mx_wr_ne, ht]), mx_rn_ne q]
      rw [me_mergePair_47_e, if_pos (by omega)]
      simp (disch := first | omega | decide) only [ix_7, Int.toNat_natCast]
      by_cases q : σ 7 e = hi
      · rw [if_pos q, t7 _ _ rfl rfl, q, mx_rn_hi]
      · rw [if_neg q, t7 _ _ rfl rfl, mx_rn_ne q]
    obtain ⟨σ', h1, h2, h3, h4, h5⟩ := ih (e + 1) (am_wr (am_wr (am_wr σ 7 e (mx_rn lo hi (σ 7 e))) 8 e (mx_rn lo hi (σ 8 e))) 9 e (mx_rn lo hi (σ 9 e))) (by simp (disch := first | omega | decide) only [mx_wr_ne]; omega) (by simp (disch := first | omega | decide) only [mx_wr_ne]; omega)
    refine ⟨σ', key.trans h1, mx_fr_tr (mx_fr_wr (mx_fr_wr (mx_fr_wr mx_fr_rf (by decide)) (by decide)) (by decide)) h2, ?_, ?_, ?_⟩
    · rw [h3]; simp (disch := first | omega | decide) only [mx_wr_ne, mx_wr_up]; exact mx_rw_step (by omega)
    · rw [h4]; simp (disch := first | omega | decide) only [mx_wr_ne, mx_wr_up]; exact mx_rw_step (by omega)
    · rw [h5]; simp (disch := first | omega | decide) only [mx_wr_ne, mx_wr_up]; exact mx_rw_step (by omega)
theorem me_mp_155 (d : Nat) (lo hi : Int) (n : Nat) : ∀ (t e : Nat) (σ : am_M), (e : Int) + t = σ 2 9 → σ 2 9 ≤ 64 → ∃ σ' : am_M, me_mergePair_155 d lo hi e σ n = some (0, σ', n) ∧ mx_Fr [10] σ σ' ∧ σ' 10 = mx_rw lo hi e (σ 2 9) (σ 10) := by
  intro t
  induction t with
  | zero =>
    intro e σ he hm
    refine ⟨σ, by rw [me_mergePair_155_e, if_neg (by omega)], mx_fr_rf, ?_⟩
    rw [mx_rw_none (by omega)]
  | succ t ih =>
    intro e σ he hm
    have key : me_mergePair_155 d lo hi e σ n = me_mergePair_155 d lo hi ((e + 1 : Nat) : Int) (am_wr σ 10 e (mx_rn lo hi (σ 10 e))) n := by
      rw [me_mergePair_155_e, if_pos (by omega)]
      simp (disch := first | omega | decide) only [ix_10, Int.toNat_natCast, am_m, mx_w_id, Int.natCast_add, Int.natCast_one]
      by_cases q : σ 10 e = hi
      · rw [if_pos q, q, mx_rn_hi]
      · rw [if_neg q, mx_rn_ne q]
    obtain ⟨σ', h1, h2, h3⟩ := ih (e + 1) (am_wr σ 10 e (mx_rn lo hi (σ 10 e))) (by simp (disch := first | omega | decide) only [mx_wr_ne]; omega) (by simp (disch := first | omega | decide) only [mx_wr_ne]; omega)
    refine ⟨σ', key.trans h1, mx_fr_tr (mx_fr_wr mx_fr_rf (by decide)) h2, ?_⟩
    rw [h3]; simp (disch := first | omega | decide) only [mx_wr_ne, mx_wr_up]; exact mx_rw_step (by omega)
theorem mx_mnx {a b : Int} (h : a ≠ b) : am_mn a b < am_mx a b := by
  unfold am_mn am_mx
  split <;> split <;> omega
theorem mx_mn_or (a b : Int) : (am_mn a b = a ∧ am_mx a b = b) ∨ (am_mn a b = b ∧ am_mx a b = a) := by
  unfold am_mn am_mx
  split <;> split <;> omega
theorem mx_mn_le (a b : Int) : am_mn a b ≤ am_mx a b := by
  unfold am_mn am_mx
  split <;> split <;> omega
def mx_ml (a b : Int) (M : Nat → Int) : Nat → Int := if a = b then M else mx_up (mx_up M (am_mn a b).toNat (am_lor (M (am_mn a b).toNat) (M (am_mx a b).toNat))) (am_mx a b).toNat 0
theorem mx_rw_same {a m : Int} {e : Nat} {f : Nat → Int} : mx_rw a a e m f = f := funext fun j => by
  unfold mx_rw
  split
  · exact mx_rn_same
  · rfl
theorem me_mergePair_s (d : Nat) (a b : Int) (σ : am_M) (n : Nat) (hm : σ 2 3 ≤ 64) (h3 : 0 ≤ σ 2 3) (hg : σ 2 9 ≤ 64) (h9 : 0 ≤ σ 2 9) (ha : 0 ≤ a ∧ a < 64) (hb : 0 ≤ b ∧ b < 64) :
    ∃ σ' : am_M, me_mergePair (d + 1) a b σ n = some (0, σ', n) ∧ mx_Fr [7, 8, 9, 10, 12] σ σ' ∧ σ' 7 = mx_rw (am_mn a b) (am_mx a b) 0 (σ 2 3) (σ 7) ∧ σ' 8 = mx_rw (am_mn a b) (am_mx a b) 0 (σ 2 3) (σ 8) ∧ σ' 9 = mx_rw (am_mn a b) (am_mx a b) 0 (σ 2 3) (σ 9) ∧ σ' 10 = mx_rw (am_mn a b) (am_mx a b) 0 (σ 2 9) (σ 10) ∧
      σ' 12 = mx_ml a b (σ 12) := by
  by_cases hab : a = b
  · subst hab
    have e1 : am_mn a a = a := by unfold am_mn; split <;> rfl
    have e2 : am_mx a a = a := by unfold am_mx; split <;> rfl
    refine ⟨σ, by rw [me_mergePair_e, e1, e2, if_pos rfl], mx_fr_rf, ?_, ?_, ?_, ?_, ?_⟩
    · rw [e1, e2, mx_rw_same]
    · rw [e1, e2, mx_rw_same]
    · rw [e1, e2, mx_rw_same]
    · rw [e1, e2, mx_rw_same]
    · unfold mx_ml; rw [if_pos rfl]
  · have hlt := mx_mnx hab
    have hor := mx_mn_or a b
    unfold mx_ml
    rw [if_neg hab, me_mergePair_e]
    generalize am_mn a b = lo at *
    generalize am_mx a b = hi at *
    rw [if_neg (by omega)]
    simp (disch := first | omega | decide) only [ix_12, am_m]
    obtain ⟨σ1, p1, p2, p3, p4, p5⟩ := me_mp_47 d lo hi n (σ 2 3).toNat 0 (am_wr (am_wr σ 12 lo.toNat (am_lor (σ 12 lo.toNat) (σ 12 hi.toNat))) 12 hi.toNat 0) (by simp (disch := first | omega | decide) only [mx_wr_ne]; omega) (by simp (disch := first | omega | decide) only [mx_wr_ne]; omega)
    have q2 : σ1 2 = σ 2 := by rw [p2 2 (by decide)]; simp (disch := first | omega | decide) only [mx_wr_ne]
    obtain ⟨σ2, r1, r2, r3⟩ := me_mp_155 d lo hi n (σ 2 9).toNat 0 σ1 (by rw [q2]; omega) (by rw [q2]; omega)
    refine ⟨σ2, p1.trans r1, ?_, ?_, ?_, ?_, ?_, ?_⟩
    · refine mx_fr_tr (mx_fr_wr (mx_fr_wr mx_fr_rf (by decide)) (by decide)) (mx_fr_tr (mx_fr_up p2 (by decide)) (mx_fr_up r2 (by decide)))
    · rw [r2 7 (by decide), p3]; simp (disch := first | omega | decide) only [mx_wr_ne]
    · rw [r2 8 (by decide), p4]; simp (disch := first | omega | decide) only [mx_wr_ne]
    · rw [r2 9 (by decide), p5]; simp (disch := first | omega | decide) only [mx_wr_ne]
    · rw [r3, q2, p2 10 (by decide)]; simp (disch := first | omega | decide) only [mx_wr_ne]
    · rw [r2 12 (by decide), p2 12 (by decide)]; simp (disch := first | omega | decide) only [mx_wr_up]
/-- what a drop leaves -/
def mx_dr (σ σ' : am_M) (e f : Nat) : Prop :=
  mx_Fr [7, 8, 9, 10, 12] σ σ' ∧ σ' 7 = mx_rw (am_mn (σ 9 f) (σ 9 e)) (am_mx (σ 9 f) (σ 9 e)) 0 (σ 2 3) (mx_up (σ 7) e (-1)) ∧ σ' 8 = mx_rw (am_mn (σ 9 f) (σ 9 e)) (am_mx (σ 9 f) (σ 9 e)) 0 (σ 2 3) (mx_up (σ 8) e (-1)) ∧ σ' 9 = mx_rw (am_mn (σ 9 f) (σ 9 e)) (am_mx (σ 9 f) (σ 9 e)) 0 (σ 2 3) (mx_up (σ 9) e (-1)) ∧
  σ' 10 = mx_rw (am_mn (σ 9 f) (σ 9 e)) (am_mx (σ 9 f) (σ 9 e)) 0 (σ 2 9) (σ 10) ∧ σ' 12 = mx_ml (σ 9 f) (σ 9 e) (mx_up (σ 12) (σ 9 e).toNat (am_land (σ 12 (σ 9 e).toNat) (am_lxor (am_lshl 1 e) (-1))))
def mx_ak (σ : am_M) (e f : Nat) : Prop := σ 5 e = σ 5 f ∧ σ 6 e = σ 6 f ∧ σ 7 e = σ 7 f ∧ σ 8 e = σ 8 f
theorem me_drop_2 (d : Nat) (n : Nat) (σ : am_M) (h3 : 0 ≤ σ 2 3) (hm : σ 2 3 ≤ 64) (hg : σ 2 9 ≤ 64) (h9 : 0 ≤ σ 2 9) (hH : ∀ e : Nat, (e : Int) < σ 2 3 → σ 9 e ≠ -1 → 0 ≤ σ 9 e ∧ σ 9 e < 64) : ∀ (t e : Nat), (e : Int) + t = σ 2 3 → (∀ e' f : Nat, f < e' → e' < e → σ 9 f ≠ -1 → σ 9 e' ≠ -1 → ¬ mx_ak σ f e') →
    (∃ (e' f : Nat) (σ' : am_M), f < e' ∧ (e' : Int) < σ 2 3 ∧ σ 9 e' ≠ -1 ∧ σ 9 f ≠ -1 ∧ mx_ak σ f e' ∧ me_dropOneAlike_2 (d + 2) e σ n = some (1, σ', n) ∧ mx_dr σ σ' e' f) ∨
    (me_dropOneAlike_2 (d + 2) e σ n = some (0, σ, n) ∧ ∀ e' f : Nat, f < e' → (e' : Int) < σ 2 3 → σ 9 f ≠ -1 → σ 9 e' ≠ -1 → ¬ mx_ak σ f e') := by
  intro t
  induction t with
  | zero =>
    intro e he hp
    right
    refine ⟨by rw [me_dropOneAlike_2_e, if_neg (by omega)], fun e' f h1 h2 => hp e' f h1 (by omega)⟩
  | succ t ih =>
    intro e he hp
    rw [me_dropOneAlike_2_e, if_pos (by omega), me_isGone_s _ _ _ _ ⟨by omega, by omega⟩, Option.bind_some, Int.toNat_natCast]
    simp only [mx_b_0, decide_eq_false_iff_not]
    have hw : am_w ((e : Int) + 1) = ((e + 1 : Nat) : Int) := by rw [mx_w_id (by omega) (by omega)]; rfl
    by_cases q : σ 9 e = -1
    · rw [if_neg (not_not_intro q), hw]
      refine ih (e + 1) (by omega) fun e' f h1 h2 h4 h5 => ?_
      by_cases r : e' = e
      · rw [r] at h5; exact absurd q h5
      · exact hp e' f h1 (by omega) h4 h5
    · rw [if_pos q]
      simp (disch := first | omega | decide) only [ix_5, ix_6, ix_7, ix_8]
      rw [me_alike_s _ _ _ _ _ _ _ h3 hm, Option.bind_some]
      have he2 : mx_al (σ 5) (σ 6) (σ 7) (σ 8) (σ 9) (σ 5 e) (σ 6 e) (σ 7 e) (σ 8 e) e = true := decide_eq_true ⟨rfl, rfl, rfl, rfl, q⟩
      rcases mx_fi_r (mx_al (σ 5) (σ 6) (σ 7) (σ 8) (σ 9) (σ 5 e) (σ 6 e) (σ 7 e) (σ 8 e)) (σ 2 3) h3 with ⟨-, h⟩ | ⟨i, h1, h2, h4, h5⟩
      · rw [h e (by omega)] at he2; cases he2
      · rw [h1]
        dsimp only
        rw [if_neg (by omega)]
        have hle : i ≤ e := by
          rcases Nat.lt_or_ge e i with r | r
          · rw [h5 e r] at he2; cases he2
          · exact r
        have h4 := of_decide_eq_true h4
        by_cases r : i = e
        · subst r
          rw [if_neg (by omega), hw]
          refine ih (i + 1) (by omega) fun e' f a1 a2 a4 a5 => ?_
          by_cases r : e' = i
          · subst r
            intro hk
            have : mx_al (σ 5) (σ 6) (σ 7) (σ 8) (σ 9) (σ 5 e') (σ 6 e') (σ 7 e') (σ 8 e') f = true := decide_eq_true ⟨hk.1, hk.2.1, hk.2.2.1, hk.2.2.2, a4⟩
            rw [h5 f a1] at this; cases this
          · exact hp e' f a1 (by omega) a4 a5
        · left
          have b1 := hH e (by omega) q
          have b2 := hH i (by omega) h4.2.2.2.2
          rw [if_pos (by omega)]
          simp (disch := first | omega | decide) only [ix_7, ix_8, ix_9, ix_12, am_m, mx_wr_ne, mx_wr_off, Int.toNat_natCast]
          obtain ⟨σ', c1, c2, c3, c4, c5, c6, c7⟩ := me_mergePair_s (d + 1) (σ 9 i) (σ 9 e) (am_wr (am_wr (am_wr (am_wr σ 12 (σ 9 e).toNat (am_land (σ 12 (σ 9 e).toNat) (am_lxor (am_lshl 1 e) (-1)))) 7 e (-1)) 8 e (-1)) 9 e (-1)) n (by simp (disch := first | omega | decide) only [mx_wr_ne]; omega) (by simp (disch := first | omega | decide) only [mx_wr_ne]; omega) (by simp (disch := first | omega | decide) only [mx_wr_ne]; omega) (by simp (disch := first | omega | decide) only [mx_wr_ne]; omega) b2 b1
          refine ⟨e, i, σ', by omega, by omega, q, h4.2.2.2.2, ⟨h4.1, h4.2.1, h4.2.2.1, h4.2.2.2.1⟩, by rw [c1]; rfl, ?_⟩
          refine ⟨mx_fr_tr (mx_fr_wr (mx_fr_wr (mx_fr_wr (mx_fr_wr mx_fr_rf (by decide)) (by decide)) (by decide)) (by decide)) c2, ?_, ?_, ?_, ?_, ?_⟩
          · rw [c3]; simp (disch := first | omega | decide) only [mx_wr_ne, mx_wr_up]
          · rw [c4]; simp (disch := first | omega | decide) only [mx_wr_ne, mx_wr_up]
          · rw [c5]; simp (disch := first | omega | decide) only [mx_wr_ne, mx_wr_up]
          · rw [c6]; simp (disch := first | omega | decide) only [mx_wr_ne, mx_wr_up]
          · rw [c7]; simp (disch := first | omega | decide) only [mx_wr_ne, mx_wr_up]
theorem me_drop_s (d : Nat) (n : Nat) (σ : am_M) (h3 : 0 ≤ σ 2 3) (hm : σ 2 3 ≤ 64) (hg : σ 2 9 ≤ 64) (h9 : 0 ≤ σ 2 9) (hH : ∀ e : Nat, (e : Int) < σ 2 3 → σ 9 e ≠ -1 → 0 ≤ σ 9 e ∧ σ 9 e < 64) :
    (∃ (e' f : Nat) (σ' : am_M), f < e' ∧ (e' : Int) < σ 2 3 ∧ σ 9 e' ≠ -1 ∧ σ 9 f ≠ -1 ∧ mx_ak σ f e' ∧ me_dropOneAlike (d + 3) σ n = some (1, σ', n) ∧ mx_dr σ σ' e' f) ∨
    (me_dropOneAlike (d + 3) σ n = some (0, σ, n) ∧ ∀ e' f : Nat, f < e' → (e' : Int) < σ 2 3 → σ 9 f ≠ -1 → σ 9 e' ≠ -1 → ¬ mx_ak σ f e') := by
  rw [me_dropOneAlike_e]
  by_cases q : 1 ≤ σ 2 3
  · exact me_drop_2 d n σ h3 hm hg h9 hH (σ 2 3 - 1).toNat 1 (by omega) fun e' f h1 h2 => by omega
  · right
    rw [me_dropOneAlike_2_e, if_neg (by omega)]
    exact ⟨rfl, fun e' f h1 h2 => by omega⟩
