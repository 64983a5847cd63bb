/-! SPELL: the class's writer -/
section
variable {n : Nat} {σ : am_M} {K P H : Nat → Int} {M p s : Nat}
/-- the plan, as it stands in the class -/
def mx_pv (σ : am_M) (K P H : Nat → Int) (M p : Nat) : Prop := σ p 3 = M ∧ ∀ i, i < M → σ (p + 1) (8 * i) = K i ∧ σ (p + 1) (8 * i + 1) = P i ∧ σ (p + 1) (8 * i + 7) = H i
theorem pl_isSpelled_s (hp : p = 58 ∨ p = 62) (h120 : M ≤ 120) (h : mx_pv σ K P H M p) (dp i : Nat) (hi : i < M) (wk : mx_wk (K i)) : pl_isSpelled (dp + 2) p i σ n = some (if 10 ≤ K i then 0 else 1, σ, n) := by
  have p0 : ¬ (p : Int) < 0 := by omega
  have f0 : pl_fact (dp + 1) p i 0 σ n = some (K i, σ, n) := by
    rw [show pl_fact (dp + 1) p i 0 σ n = _ from pl_fact_s dp p i 0 hp (by omega) (by decide) σ, Nat.add_zero (8 * i), (h.2 i hi).1]
  unfold mx_wk at wk
  rw [pl_isSpelled_e, mx_if_t p0, f0, Option.bind_some]
  dsimp only
  by_cases k10 : K i = 10
  · rw [if_pos k10, if_pos (by omega)]
  · rw [if_neg k10, mx_if_t p0, f0, Option.bind_some]
    dsimp only
    by_cases k11 : K i = 11
    · rw [if_pos k11, if_pos (by omega)]
    · rw [if_neg k11, if_neg (by omega)]
theorem pl_word_s (hp : p = 58 ∨ p = 62) (h120 : M ≤ 120) (h : mx_pv σ K P H M p) (dp i : Nat) (hi : i < M) (wk : mx_wk (K i)) (k10 : ¬ 10 ≤ K i) (F : am_R → Option am_R) : ((pl_expressionKind (dp + 2) p i σ n).bind fun q2 => (pm_wordOf (dp + 2) q2.1 q2.2.1 q2.2.2).bind F) = F (((2000 + mx_wd K H i : Nat) : Int), σ, n) := by
  have p0 : ¬ (p : Int) < 0 := by omega
  have f0 : pl_fact (dp + 1) p i 0 σ n = some (K i, σ, n) := by
    rw [show pl_fact (dp + 1) p i 0 σ n = _ from pl_fact_s dp p i 0 hp (by omega) (by decide) σ, Nat.add_zero (8 * i), (h.2 i hi).1]
  have f7 : pl_fact (dp + 1) p i 7 σ n = some (H i, σ, n) := by
    rw [show pl_fact (dp + 1) p i 7 σ n = _ from pl_fact_s dp p i 7 hp (by omega) (by decide) σ, (h.2 i hi).2.2]
  unfold mx_wk at wk
  rw [pl_expressionKind_e, mx_if_t p0, f0, Option.bind_some]
  dsimp only
  unfold mx_wd
  by_cases k1 : K i = 1
  · rw [if_pos k1, if_pos k1, Option.bind_some]
    dsimp only
    rw [pm_wordOf_e, if_pos rfl, Option.bind_some]; rfl
  · rw [if_neg k1, if_neg k1]
    by_cases k2 : K i = 2
    · rw [if_pos k2, if_pos k2, Option.bind_some]
      dsimp only
      rw [pm_wordOf_e, if_neg (by decide), if_neg (by decide), if_pos rfl, Option.bind_some]; rfl
    · rw [if_neg k2, if_neg k2, pl_inputsOf_s, Option.bind_some]
      dsimp only
      by_cases k8 : K i < 8
      · have ar : mx_ar (K i) = 2 := by unfold mx_ar; rw [if_neg k1, if_pos (by omega)]
        rw [if_pos k8, ar, if_neg (by decide), mx_if_t p0, f7, Option.bind_some]
        dsimp only
        by_cases z : H i = 1
        · rw [if_pos z, if_pos z, Option.bind_some]
          dsimp only
          rw [pm_wordOf_e, if_neg (by decide), if_neg (by decide), if_neg (by decide), if_neg (by decide), if_neg (by decide), Option.bind_some]; rfl
        · rw [if_neg z, if_neg z, Option.bind_some]
          dsimp only
          rw [pm_wordOf_e, if_neg (by decide), if_neg (by decide), if_neg (by decide), if_neg (by decide), if_pos rfl, Option.bind_some]; rfl
      · have ar : mx_ar (K i) = 1 := by unfold mx_ar; rw [if_neg k1, if_neg (by omega)]
        rw [if_neg k8, ar, if_pos rfl, Option.bind_some]
        dsimp only
        rw [pm_wordOf_e, if_neg (by decide), if_neg (by decide), if_neg (by decide), if_pos rfl, Option.bind_some]; rfl
theorem pl_letters_4_s (hp : p = 58 ∨ p = 62) (h120 : M ≤ 120) (h : mx_pv σ K P H M p) (hk : ∀ i, i < M → mx_wk (K i)) (dp : Nat) : ∀ (k i : Nat), i + k = M → pl_letters_4 (dp + 2) p (mx_ls' K H i : Nat) i σ n = some (((mx_ls' K H M : Nat) : Int), σ, n) := by
  have p0 : ¬ (p : Int) < 0 := by omega
  intro k
  induction k with
  | zero =>
    intro i hi
    have : i = M := by omega
    rw [pl_letters_4_e, mx_if_t p0, Int.toNat_natCast, h.1, if_neg (by omega), this]
  | succ k ih =>
    intro i hi
    have iM : i < M := by omega
    have ss : mx_ls' K H (i + 1) = mx_ls' K H i + mx_lc K H i := rfl
    have b := mx_ls_10 (K := K) (H := H) i
    have wk := hk i iM
    rw [pl_letters_4_e, mx_if_t p0, Int.toNat_natCast, h.1, if_pos (by omega), mx_if_t p0, pl_isSpelled_s hp h120 h dp i iM wk, Option.bind_some, mx_w_nat (by omega)]
    dsimp only
    by_cases k10 : 10 ≤ K i
    · rw [if_pos k10, if_pos rfl]
      have lc : mx_lc K H i = 0 := by unfold mx_lc; rw [if_pos k10]
      have := ih (i + 1) (by omega)
      rw [ss, lc] at this
      exact this
    · have f0 : pl_fact (dp + 2) p i 0 σ n = some (K i, σ, n) := by
        rw [show pl_fact (dp + 2) p i 0 σ n = _ from pl_fact_s (dp + 1) p i 0 hp (by omega) (by decide) σ, Nat.add_zero (8 * i), (h.2 i iM).1]
      rw [if_neg k10, if_neg (by decide), mx_if_t p0, f0, Option.bind_some]
      dsimp only
      rw [pl_inputsOf_s, Option.bind_some]
      dsimp only
      rw [mx_if_t p0, pl_word_s hp h120 h dp i iM wk k10, mx_if_t (by show ¬ ((2000 + mx_wd K H i : Nat) : Int) < 0; omega)]
      dsimp only
      have w5 := mx_wd_lt (K := K) (H := H) i
      have w6 := mx_ww_6 _ w5
      rw [st_length_s dp _ (by omega), Option.bind_some]
      dsimp only
      have nx := ih (i + 1) (by omega)
      unfold mx_wk at wk
      by_cases k1 : K i = 1
      · have ar : mx_ar (K i) = 0 := by unfold mx_ar; rw [if_pos k1]
        have lc : mx_lc K H i = (mx_ww (mx_wd K H i)).length + 1 + 0 := by unfold mx_lc; rw [if_neg k10, if_pos k1]
        rw [ar, if_pos rfl]
        rw [mx_w_id (z := ((mx_ww (mx_wd K H i)).length : Int) + 1) (by omega) (by omega), mx_w_id (z := ((mx_ww (mx_wd K H i)).length : Int) + 1 + 0) (by omega) (by omega), mx_w_id (by omega) (by omega)]
        rw [ss, lc] at nx
        rw [← nx]
        congr 1
      · by_cases k2 : K i < 4 ∨ 6 < K i
        · have ar : mx_ar (K i) = 1 := by unfold mx_ar; rw [if_neg k1, if_neg (by omega)]
          have lc : mx_lc K H i = (mx_ww (mx_wd K H i)).length + 1 + 2 := by unfold mx_lc; rw [if_neg k10, if_neg k1, if_pos k2]
          rw [ar, if_neg (by decide)]
          rw [mx_w_id (z := ((mx_ww (mx_wd K H i)).length : Int) + 1) (by omega) (by omega), show am_w ((1 : Int) + 1) = 2 from rfl, mx_w_id (z := ((mx_ww (mx_wd K H i)).length : Int) + 1 + 2) (by omega) (by omega), mx_w_id (by omega) (by omega)]
          rw [ss, lc] at nx
          rw [← nx]
          congr 1
        · have ar : mx_ar (K i) = 2 := by unfold mx_ar; rw [if_neg k1, if_pos (by omega)]
          have lc : mx_lc K H i = (mx_ww (mx_wd K H i)).length + 1 + 3 := by unfold mx_lc; rw [if_neg k10, if_neg k1, if_neg k2]
          rw [ar, if_neg (by decide)]
          rw [mx_w_id (z := ((mx_ww (mx_wd K H i)).length : Int) + 1) (by omega) (by omega), show am_w ((2 : Int) + 1) = 3 from rfl, mx_w_id (z := ((mx_ww (mx_wd K H i)).length : Int) + 1 + 3) (by omega) (by omega), mx_w_id (by omega) (by omega)]
          rw [ss, lc] at nx
          rw [← nx]
          congr 1
/-- letters are put into a row -/
def mx_clw (p s : Nat) (σ σ' : am_M) (a : Nat) (L : List Int) : Prop := (∀ c x, c ≠ 67 + 2 * s → c ≠ p + 3 → σ' c x = σ c x) ∧ (∀ x v, L[x]? = some v → σ' (67 + 2 * s) (a + x) = mx_pw (σ (66 + 2 * s) 2) v) ∧ ∀ x, (x < a ∨ a + L.length ≤ x) → σ' (67 + 2 * s) x = σ (67 + 2 * s) x
theorem mx_clw_tr (hp : p = 58 ∨ p = 62) {σ1 σ2 : am_M} {a : Nat} {L L' : List Int} (h1 : mx_clw p s σ σ1 a L) (h2 : mx_clw p s σ1 σ2 (a + L.length) L') : mx_clw p s σ σ2 a (L ++ L') := by
  obtain ⟨a1, a2, a3⟩ := h1
  obtain ⟨b1, b2, b3⟩ := h2
  have e : σ1 (66 + 2 * s) 2 = σ (66 + 2 * s) 2 := a1 _ _ (by omega) (by omega)
  refine ⟨fun c x q1 q2 => (b1 c x q1 q2).trans (a1 c x q1 q2), fun x v hx => ?_, fun x hx => ?_⟩
  · by_cases q : x < L.length
    · rw [List.getElem?_append_left q] at hx
      rw [b3 _ (by omega)]; exact a2 x v hx
    · rw [List.getElem?_append_right (by omega)] at hx
      have := b2 _ v hx
      rw [show a + L.length + (x - L.length) = a + x by omega, e] at this
      exact this
  · rw [List.length_append] at hx
    rw [b3 x (by omega), a3 x (by omega)]
theorem mx_clw_nil {a : Nat} : mx_clw p s σ σ a [] := ⟨fun _ _ _ _ => rfl, fun x v hx => (by cases hx), fun _ _ => rfl⟩
theorem mx_clw_one {a : Nat} {v : Int} : mx_clw p s σ (am_wr σ (67 + 2 * s) a (mx_pw (σ (66 + 2 * s) 2) v)) a [v] := by
  refine ⟨fun c x q1 q2 => by rw [mx_wr_ne q1], fun x w hx => ?_, fun x hx => by rw [List.length_singleton] at hx; rw [mx_wr_off (by omega)]⟩
  cases x with
  | zero => cases hx; exact mx_wr_at
  | succ x => cases hx
theorem mx_clw_st {σ' : am_M} {a : Nat} {L : List Int} {o : Nat} {v : Int} (hp : p = 58 ∨ p = 62) (h : mx_clw p s σ σ' a L) : mx_clw p s σ (am_wr σ' (p + 3) o v) a L :=
  ⟨fun c x q1 q2 => by rw [mx_wr_ne q2]; exact h.1 c x q1 q2, fun x w hx => by rw [mx_wr_ne (by omega)]; exact h.2.1 x w hx, fun x hx => by rw [mx_wr_ne (by omega)]; exact h.2.2 x hx⟩
theorem mx_pv_clw (hp : p = 58 ∨ p = 62) (h : mx_pv σ K P H M p) {σ' : am_M} {a : Nat} {L : List Int} (w : mx_clw p s σ σ' a L) : mx_pv σ' K P H M p := by
  refine ⟨by rw [w.1 p 3 (by omega) (by omega)]; exact h.1, fun i hi => ?_⟩
  rw [w.1 _ _ (by omega) (by omega), w.1 _ _ (by omega) (by omega), w.1 _ _ (by omega) (by omega)]
  exact h.2 i hi
/-- a word -/
theorem pl_writeTo_42_w (hp : p = 58 ∨ p = 62) (hs : s < 8) (dp w : Nat) (hw : w < 8) (a : Nat) (v3 v4 : Int) : ∀ (R A : List Int) (σ : am_M), mx_ww w = A ++ R → ((a + (mx_ww w).length : Nat) : Int) ≤ σ (66 + 2 * s) 1 → a + (mx_ww w).length ≤ 160 →
    ∃ σ' : am_M, pl_writeTo_42 (dp + 4) p ((66 + 2 * s : Nat) : Int) a v3 v4 ((2000 + w : Nat) : Int) (A.length : Nat) σ n = pl_writeTo_42 (dp + 4) p ((66 + 2 * s : Nat) : Int) a v3 v4 ((2000 + w : Nat) : Int) ((mx_ww w).length : Nat) σ' n ∧ mx_clw p s σ σ' (a + A.length) R ∧ σ' (p + 3) = σ (p + 3) := by
  have v0 : ¬ ((2000 + w : Nat) : Int) < 0 := by omega
  have s0 : ¬ ((66 + 2 * s : Nat) : Int) < 0 := by omega
  intro R
  induction R with
  | nil =>
    intro A σ hA h1 h2
    refine ⟨σ, ?_, mx_clw_nil, rfl⟩
    rw [show (mx_ww w).length = A.length by rw [hA, List.append_nil]]
  | cons v R ih =>
    intro A σ hA h1 h2
    have l : (mx_ww w).length = A.length + (R.length + 1) := by rw [hA, List.length_append, List.length_cons]
    have hv : (mx_ww w)[A.length]? = some v := by rw [hA, List.getElem?_append_right (Nat.le_refl _), Nat.sub_self]; rfl
    obtain ⟨σ1, hσ1⟩ : ∃ σ1, σ1 = am_wr σ (67 + 2 * s) (a + A.length) (mx_pw (σ (66 + 2 * s) 2) v) := ⟨_, rfl⟩
    have c1 : mx_clw p s σ σ1 (a + A.length) [v] := by rw [hσ1]; exact mx_clw_one
    obtain ⟨σ', a1, a2, a3⟩ := ih (A ++ [v]) σ1 (by rw [hA, List.append_assoc]; rfl) (by rw [c1.1 _ _ (by omega) (by omega)]; exact h1) h2
    rw [List.length_append, List.length_singleton] at a1 a2
    refine ⟨σ', ?_, mx_clw_tr hp c1 (by rw [List.length_singleton, Nat.add_assoc]; exact a2), by rw [a3, hσ1, mx_wr_ne (by omega)]⟩
    have ba : a + A.length < 1000 := by omega
    rw [pl_writeTo_42_e, mx_if_t v0, st_length_s (dp + 2) w hw, Option.bind_some]
    dsimp only
    rw [if_pos (by omega), mx_if_t v0, st_charAt_s dp w A.length hw hv, Option.bind_some]
    dsimp only
    rw [mx_if_t s0, mx_wadd ba, sh_put_s (dp + 2) n s _ v σ hs ⟨by omega, by omega⟩ (by omega), Option.bind_some]
    dsimp only
    rw [Int.toNat_natCast, ← hσ1, mx_w_nat (by omega)]
    exact a1
/-- what closes -/
theorem pl_writeTo_152_1 (hp : p = 58 ∨ p = 62) (hs : s < 8) (dp a o : Nat) (v4 : Int) (ho : o < 120) (σ : am_M) (h1 : ((a + 1 : Nat) : Int) ≤ σ (66 + 2 * s) 1) (h2 : a + 1 ≤ 160) (ht : σ (p + 3) o = 1) :
    ∃ σ' : am_M, pl_writeTo_152 (dp + 4) p ((66 + 2 * s : Nat) : Int) a ((o + 1 : Nat) : Int) v4 1 σ n = pl_writeTo_152 (dp + 4) p ((66 + 2 * s : Nat) : Int) ((a + 1 : Nat) : Int) o v4 1 σ' n ∧ mx_clw p s σ σ' a (mx_ww 7) ∧ ∀ x, x < o → σ' (p + 3) x = σ (p + 3) x := by
  have p0 : ¬ (p : Int) < 0 := by omega
  have s0 : ¬ ((66 + 2 * s : Nat) : Int) < 0 := by omega
  obtain ⟨fin2, X3⟩ := mx_finP2 hp
  have eo : am_w (((o + 1 : Nat) : Int) - 1) = (o : Int) := by rw [mx_w_id (by omega) (by omega)]; omega
  obtain ⟨σ1, hσ1⟩ : ∃ σ1, σ1 = am_wr σ (p + 3) o 0 := ⟨_, rfl⟩
  have c0 : mx_clw p s σ σ1 a [] := by rw [hσ1]; exact mx_clw_st hp mx_clw_nil
  have e2 : σ1 (66 + 2 * s) 2 = σ (66 + 2 * s) 2 := c0.1 _ _ (by omega) (by omega)
  refine ⟨am_wr σ1 (67 + 2 * s) a (mx_pw (σ1 (66 + 2 * s) 2) 41), ?_, mx_clw_tr (L := []) hp c0 mx_clw_one, fun x hx => by rw [mx_wr_ne (by omega), hσ1, mx_wr_off (by omega)]⟩
  rw [pl_writeTo_152_e, if_neg (by decide), if_pos (by omega), mx_if_t p0, Int.toNat_natCast, fin2, eo, X3 _ _ ho, X3 _ _ ho, mx_m, Int.toNat_natCast, Int.toNat_natCast, ht, show am_w (1 - 1) = 0 from rfl, ← hσ1, mx_if_t p0, X3 _ _ ho, hσ1, mx_wr_at, if_pos rfl, ← hσ1, pl_writeTo_207_e, mx_if_t s0, sh_put_s (dp + 2) n s _ 41 σ1 hs ⟨by omega, by rw [c0.1 _ _ (by omega) (by omega)]; omega⟩ (by omega), Option.bind_some]
  dsimp only
  rw [if_neg (by decide), Int.toNat_natCast, mx_w_nat (by omega), eo]
theorem pl_writeTo_152_2 (hp : p = 58 ∨ p = 62) (hs : s < 8) (dp a o i : Nat) (ho : o < 120) (hi : i < 120) (σ : am_M) (h1 : ((a + 1 : Nat) : Int) ≤ σ (66 + 2 * s) 1) (h2 : a + 1 ≤ 160) (ht : σ (p + 3) o = 2) :
    ∃ σ' : am_M, pl_writeTo_152 (dp + 4) p ((66 + 2 * s : Nat) : Int) a ((o + 1 : Nat) : Int) i 1 σ n = pl_writeTo_7 (dp + 4) p ((66 + 2 * s : Nat) : Int) ((a + 1 : Nat) : Int) ((o + 1 : Nat) : Int) ((i + 1 : Nat) : Int) σ' n ∧ mx_clw p s σ σ' a (mx_ww 6) ∧ (∀ x, x < o → σ' (p + 3) x = σ (p + 3) x) ∧ σ' (p + 3) o = 1 := by
  have p0 : ¬ (p : Int) < 0 := by omega
  have s0 : ¬ ((66 + 2 * s : Nat) : Int) < 0 := by omega
  obtain ⟨fin2, X3⟩ := mx_finP2 hp
  have eo : am_w (((o + 1 : Nat) : Int) - 1) = (o : Int) := by rw [mx_w_id (by omega) (by omega)]; omega
  have eo2 : am_w (((o + 1 : Nat) : Int) - 0) = ((o + 1 : Nat) : Int) := by rw [mx_w_id (by omega) (by omega)]; omega
  obtain ⟨σ1, hσ1⟩ : ∃ σ1, σ1 = am_wr σ (p + 3) o 1 := ⟨_, rfl⟩
  have c0 : mx_clw p s σ σ1 a [] := by rw [hσ1]; exact mx_clw_st hp mx_clw_nil
  refine ⟨am_wr σ1 (67 + 2 * s) a (mx_pw (σ1 (66 + 2 * s) 2) 44), ?_, mx_clw_tr (L := []) hp c0 mx_clw_one, fun x hx => by rw [mx_wr_ne (by omega), hσ1, mx_wr_off (by omega)], by rw [mx_wr_ne (by omega), hσ1, mx_wr_at]⟩
  rw [pl_writeTo_152_e, if_neg (by decide), if_pos (by omega), mx_if_t p0, Int.toNat_natCast, fin2, eo, X3 _ _ ho, X3 _ _ ho, mx_m, Int.toNat_natCast, Int.toNat_natCast, ht, show am_w (2 - 1) = 1 from rfl, ← hσ1, mx_if_t p0, X3 _ _ ho, hσ1, mx_wr_at, if_neg (by decide), ← hσ1, pl_writeTo_207_e, mx_if_t s0, sh_put_s (dp + 2) n s _ 44 σ1 hs ⟨by omega, by rw [c0.1 _ _ (by omega) (by omega)]; omega⟩ (by omega), Option.bind_some]
  dsimp only
  rw [if_pos rfl, Int.toNat_natCast, mx_w_nat (by omega), eo2, pl_writeTo_152_e, if_pos rfl, mx_w_nat (by omega)]
/-- writeTo(), from a node on -/
theorem pl_writeTo_7_s (hp : p = 58 ∨ p = 62) (hs : s < 8) (hk : ∀ i, i < M → mx_wk (K i)) (hn : ∀ i, i < M → 1 ≤ mx_nd K i) (hM : mx_nd K M = 0) (h120 : M ≤ 120) (dp : Nat) : ∀ (f i a o : Nat) (σ : am_M) (L : List Int) (j : Nat), i < M → M ≤ i + f → mx_sp K P H f i = some (L, j) → o ≤ i → mx_pv σ K P H M p → ((a + L.length : Nat) : Int) ≤ σ (66 + 2 * s) 1 → a + L.length ≤ 160 →
    ∃ σ' : am_M, pl_writeTo_7 (dp + 4) p ((66 + 2 * s : Nat) : Int) a o i σ n = pl_writeTo_152 (dp + 4) p ((66 + 2 * s : Nat) : Int) ((a + L.length : Nat) : Int) o ((j - 1 : Nat) : Int) 1 σ' n ∧ mx_clw p s σ σ' a L ∧ ∀ x, x < o → σ' (p + 3) x = σ (p + 3) x := by
  have p0 : ¬ (p : Int) < 0 := by omega
  have s0 : ¬ ((66 + 2 * s : Nat) : Int) < 0 := by omega
  obtain ⟨fin2, X3⟩ := mx_finP2 hp
  intro f
  induction f with
  | zero => intro i a o σ L j hi hf h; cases h
  | succ f ih =>
    intro i a o σ L j hi hf h ho hv hl h160
    have wk := hk i hi
    have l57 : (mx_ww 5).length = 1 ∧ (mx_ww 6).length = 1 ∧ (mx_ww 7).length = 1 := by decide
    obtain ⟨l5, l6, l7⟩ := l57
    have bi : (i : Int) < 1000 := by omega
    have start : pl_writeTo_7 (dp + 4) p ((66 + 2 * s : Nat) : Int) a o i σ n = if 10 ≤ K i then pl_writeTo_7 (dp + 4) p ((66 + 2 * s : Nat) : Int) a o ((i + 1 : Nat) : Int) σ n else pl_writeTo_42 (dp + 4) p ((66 + 2 * s : Nat) : Int) a o i ((2000 + mx_wd K H i : Nat) : Int) 0 σ n := by
      rw [pl_writeTo_7_e, mx_if_t p0, Int.toNat_natCast, hv.1, if_pos (by omega), mx_if_t p0, pl_isSpelled_s hp h120 hv (dp + 2) i hi wk, Option.bind_some]
      dsimp only
      by_cases z : 10 ≤ K i
      · rw [if_pos z, if_pos rfl, if_pos z, mx_w_nat bi]
      · rw [if_neg z, if_neg (by decide), if_neg z, mx_if_t p0, pl_word_s hp h120 hv (dp + 2) i hi wk z]
    -- the word and the digit
    have head : ¬ 10 ≤ K i → ∀ R, L = mx_ww (mx_wd K H i) ++ [am_w (48 + P i)] ++ R → ∃ σ2 : am_M, mx_clw p s σ σ2 a (mx_ww (mx_wd K H i) ++ [am_w (48 + P i)]) ∧ σ2 (p + 3) = σ (p + 3) ∧ pl_writeTo_7 (dp + 4) p ((66 + 2 * s : Nat) : Int) a o i σ n =
        if 0 < mx_ar (K i) then ((sh_put (dp + 4) ((66 + 2 * s : Nat) : Int) ((a + (mx_ww (mx_wd K H i) ++ [am_w (48 + P i)]).length : Nat) : Int) 40 σ2 n).bind fun q7 => am_m (am_wr q7.2.1 (p + 3) o (mx_ar (K i))) fun σ1 => pl_writeTo_7 (dp + 4) p ((66 + 2 * s : Nat) : Int) ((a + (mx_ww (mx_wd K H i) ++ [am_w (48 + P i)]).length + 1 : Nat) : Int) ((o + 1 : Nat) : Int) ((i + 1 : Nat) : Int) σ1 q7.2.2) else pl_writeTo_152 (dp + 4) p ((66 + 2 * s : Nat) : Int) ((a + (mx_ww (mx_wd K H i) ++ [am_w (48 + P i)]).length : Nat) : Int) o i 1 σ2 n := fun z R hR => by
      have w5 := mx_wd_lt (K := K) (H := H) i
      have w6 := mx_ww_6 _ w5
      have ll : L.length = (mx_ww (mx_wd K H i)).length + 1 + R.length := by rw [hR]; simp only [List.length_append, List.length_singleton]
      obtain ⟨σ1, a1, a2, a3⟩ := pl_writeTo_42_w (n := n) (p := p) hp hs dp (mx_wd K H i) (by omega) a o i (mx_ww (mx_wd K H i)) [] σ rfl (by omega) (by omega)
      rw [List.length_nil, Nat.add_zero] at a2
      obtain ⟨σ2, hσ2⟩ : ∃ σ2, σ2 = am_wr σ1 (67 + 2 * s) (a + (mx_ww (mx_wd K H i)).length) (mx_pw (σ1 (66 + 2 * s) 2) (am_w (48 + P i))) := ⟨_, rfl⟩
      have c2 : mx_clw p s σ1 σ2 (a + (mx_ww (mx_wd K H i)).length) [am_w (48 + P i)] := by rw [hσ2]; exact mx_clw_one
      have c12 := mx_clw_tr hp a2 c2
      have v1 := mx_pv_clw hp hv a2
      have v2 := mx_pv_clw hp hv c12
      refine ⟨σ2, c12, by rw [hσ2, mx_wr_ne (by omega), a3], ?_⟩
      have ba : a + (mx_ww (mx_wd K H i)).length < 1000 := by omega
      have bb : ((a + (mx_ww (mx_wd K H i)).length : Nat) : Int) < 1000 := by omega
      have bc : ((a + (mx_ww (mx_wd K H i)).length + 1 : Nat) : Int) < 1000 := by omega
      have bo : (o : Int) < 1000 := by omega
      have f1 : pl_fact (dp + 4) p i 1 σ1 n = some (P i, σ1, n) := by
        rw [show pl_fact (dp + 4) p i 1 σ1 n = _ from pl_fact_s (dp + 3) p i 1 hp (by omega) (by decide) σ1, (v1.2 i hi).2.1]
      have f0 : pl_fact (dp + 4) p i 0 σ2 n = some (K i, σ2, n) := by
        rw [show pl_fact (dp + 4) p i 0 σ2 n = _ from pl_fact_s (dp + 3) p i 0 hp (by omega) (by decide) σ2, Nat.add_zero (8 * i), (v2.2 i hi).1]
      have v0 : ¬ ((2000 + mx_wd K H i : Nat) : Int) < 0 := by omega
      rw [start, if_neg z]
      refine Eq.trans a1 ?_
      rw [pl_writeTo_42_e, mx_if_t v0, st_length_s (dp + 2) _ (by omega), Option.bind_some]
      dsimp only
      rw [if_neg (by omega), mx_if_t v0, st_length_s (dp + 2) _ (by omega), Option.bind_some]
      dsimp only
      rw [mx_if_t p0, f1, Option.bind_some]
      dsimp only
      rw [mx_if_t s0, mx_wadd ba, sh_put_s (dp + 2) n s _ (am_w (48 + P i)) σ1 hs ⟨by omega, by rw [a2.1 _ _ (by omega) (by omega)]; omega⟩ (by omega), Option.bind_some]
      dsimp only
      rw [Int.toNat_natCast, ← hσ2, mx_if_t p0, f0, Option.bind_some]
      dsimp only
      rw [pl_inputsOf_s, Option.bind_some]
      dsimp only
      rw [mx_w_nat bb, mx_w_nat bc, List.length_append, List.length_singleton, mx_w_nat bo, mx_w_nat bi]
      by_cases y : 0 < mx_ar (K i)
      · rw [if_pos y, if_pos y, if_pos (by omega), mx_if_t s0, Int.toNat_natCast, fin2]
        simp only [mx_if_t p0, X3 o _ (show o < 120 by omega), Int.toNat_natCast]
        rfl
      · rw [if_neg y, if_neg y]
        rfl
    -- the bracket that opens
    have opens : ¬ 10 ≤ K i → ∀ (r : Nat) R, mx_ar (K i) = r → 0 < r → L = mx_ww (mx_wd K H i) ++ [am_w (48 + P i)] ++ mx_ww 5 ++ R → ∃ σ4 : am_M, mx_clw p s σ σ4 a (mx_ww (mx_wd K H i) ++ [am_w (48 + P i)] ++ mx_ww 5) ∧ (∀ x, x < o → σ4 (p + 3) x = σ (p + 3) x) ∧ σ4 (p + 3) o = r ∧ pl_writeTo_7 (dp + 4) p ((66 + 2 * s : Nat) : Int) a o i σ n = pl_writeTo_7 (dp + 4) p ((66 + 2 * s : Nat) : Int) ((a + (mx_ww (mx_wd K H i) ++ [am_w (48 + P i)] ++ mx_ww 5).length : Nat) : Int) ((o + 1 : Nat) : Int) ((i + 1 : Nat) : Int) σ4 n := fun z r R hr r0 hR => by
      obtain ⟨σ2, c2, t2, g2⟩ := head z (mx_ww 5 ++ R) (by rw [hR, List.append_assoc])
      have ll : L.length = (mx_ww (mx_wd K H i) ++ [am_w (48 + P i)]).length + 1 + R.length := by rw [hR, List.length_append, List.length_append, l5]
      obtain ⟨σ3, hσ3⟩ : ∃ σ3, σ3 = am_wr σ2 (67 + 2 * s) (a + (mx_ww (mx_wd K H i) ++ [am_w (48 + P i)]).length) (mx_pw (σ2 (66 + 2 * s) 2) 40) := ⟨_, rfl⟩
      have c3 : mx_clw p s σ2 σ3 (a + (mx_ww (mx_wd K H i) ++ [am_w (48 + P i)]).length) (mx_ww 5) := by rw [hσ3]; exact mx_clw_one
      refine ⟨am_wr σ3 (p + 3) o r, mx_clw_st hp (mx_clw_tr hp c2 c3), fun x hx => by rw [mx_wr_off (by omega), hσ3, mx_wr_ne (by omega), t2], by rw [mx_wr_at], ?_⟩
      rw [g2, if_pos (by omega), sh_put_s (dp + 2) n s _ 40 σ2 hs ⟨by omega, by rw [c2.1 _ _ (by omega) (by omega)]; omega⟩ (by omega), Option.bind_some]
      dsimp only
      rw [Int.toNat_natCast, ← hσ3, mx_m, hr, List.length_append (as := mx_ww (mx_wd K H i) ++ [am_w (48 + P i)]) (bs := mx_ww 5), l5, Nat.add_assoc]
    rcases mx_sp_cs hk hn hM hi hf h with ⟨c1, c2, c3⟩ | ⟨c1, c2, c3⟩ | ⟨c1, c2, c3, c4, c5, L1, c6, c7⟩ | ⟨c1, c2, c3, c4, L1, j1, L2, c5, c6, c7, c8, c9, c10⟩
    · obtain ⟨σ', a1, a2⟩ := ih (i + 1) a o σ L j c2 (by omega) c3 (by omega) hv hl h160
      exact ⟨σ', by rw [start, if_pos c1]; exact a1, a2⟩
    · have ar : mx_ar (K i) = 0 := by unfold mx_ar; rw [if_pos c1]
      have wd : mx_wd K H i = 0 := by unfold mx_wd; rw [if_pos c1]
      obtain ⟨σ2, d1, d2, d3⟩ := head (by omega) [] (by rw [wd, c2, List.append_nil])
      rw [wd, ← c2] at d1 d3
      refine ⟨σ2, ?_, d1, fun x _ => by rw [d2]⟩
      rw [d3, ar, if_neg (by decide), c3, Nat.add_sub_cancel]
    · have ar : mx_ar (K i) = ((1 : Nat) : Int) := by unfold mx_ar; rw [if_neg c2, if_neg (by omega)]; rfl
      obtain ⟨σ4, d1, d2, d3, d4⟩ := opens c1 1 (L1 ++ mx_ww 7) ar (by decide) (by rw [c7, List.append_assoc])
      have ll : L.length = (mx_ww (mx_wd K H i) ++ [am_w (48 + P i)] ++ mx_ww 5).length + L1.length + 1 := by rw [c7, List.length_append, List.length_append, l7]
      have z4 : σ4 (66 + 2 * s) 1 = σ (66 + 2 * s) 1 := d1.1 _ _ (by omega) (by omega)
      obtain ⟨σ5, e1, e2, e3⟩ := ih (i + 1) (a + (mx_ww (mx_wd K H i) ++ [am_w (48 + P i)] ++ mx_ww 5).length) (o + 1) σ4 L1 j c4 (by omega) c6 (by omega) (mx_pv_clw hp hv d1) (by rw [z4]; omega) (by omega)
      have z5 : σ5 (66 + 2 * s) 1 = σ4 (66 + 2 * s) 1 := e2.1 _ _ (by omega) (by omega)
      obtain ⟨σ6, u1, u2, u3⟩ := pl_writeTo_152_1 (n := n) hp hs dp (a + (mx_ww (mx_wd K H i) ++ [am_w (48 + P i)] ++ mx_ww 5).length + L1.length) o ((j - 1 : Nat) : Int) (by omega) σ5 (by rw [z5, z4]; omega) (by omega) (by rw [e3 o (by omega)]; exact d3)
      have w15 := mx_clw_tr hp d1 e2
      have w16 := mx_clw_tr hp w15 (by rw [List.length_append, ← Nat.add_assoc]; exact u2)
      rw [← c7] at w16
      refine ⟨σ6, ?_, w16, fun x hx => by rw [u3 x hx, e3 x (by omega), d2 x hx]⟩
      rw [d4, e1, u1, ll]
      simp only [Nat.add_assoc]
    · have ar : mx_ar (K i) = ((2 : Nat) : Int) := by unfold mx_ar; rw [if_neg c2, if_pos (by omega)]; rfl
      obtain ⟨σ4, d1, d2, d3, d4⟩ := opens c1 2 (L1 ++ mx_ww 6 ++ L2 ++ mx_ww 7) ar (by decide) (by rw [c10]; simp only [List.append_assoc])
      have ll : L.length = (mx_ww (mx_wd K H i) ++ [am_w (48 + P i)] ++ mx_ww 5).length + L1.length + 1 + L2.length + 1 := by rw [c10, List.length_append, List.length_append, List.length_append, List.length_append, l6, l7]
      have z4 : σ4 (66 + 2 * s) 1 = σ (66 + 2 * s) 1 := d1.1 _ _ (by omega) (by omega)
      obtain ⟨σ5, e1, e2, e3⟩ := ih (i + 1) (a + (mx_ww (mx_wd K H i) ++ [am_w (48 + P i)] ++ mx_ww 5).length) (o + 1) σ4 L1 j1 c4 (by omega) c5 (by omega) (mx_pv_clw hp hv d1) (by rw [z4]; omega) (by omega)
      have z5 : σ5 (66 + 2 * s) 1 = σ4 (66 + 2 * s) 1 := e2.1 _ _ (by omega) (by omega)
      obtain ⟨σ6, u1, u2, u3, u4⟩ := pl_writeTo_152_2 (n := n) hp hs dp (a + (mx_ww (mx_wd K H i) ++ [am_w (48 + P i)] ++ mx_ww 5).length + L1.length) o (j1 - 1) (by omega) (by omega) σ5 (by rw [z5, z4]; omega) (by omega) (by rw [e3 o (by omega)]; exact d3)
      have w15 := mx_clw_tr hp d1 e2
      have w16 := mx_clw_tr hp w15 (by rw [List.length_append, ← Nat.add_assoc]; exact u2)
      have z6 : σ6 (66 + 2 * s) 1 = σ5 (66 + 2 * s) 1 := u2.1 _ _ (by omega) (by omega)
      obtain ⟨σ7, x1, x2, x3⟩ := ih j1 (a + (mx_ww (mx_wd K H i) ++ [am_w (48 + P i)] ++ mx_ww 5).length + L1.length + 1) (o + 1) σ6 L2 j c7 (by omega) c9 (by omega) (mx_pv_clw hp hv w16) (by rw [z6, z5, z4]; omega) (by omega)
      have z7 : σ7 (66 + 2 * s) 1 = σ6 (66 + 2 * s) 1 := x2.1 _ _ (by omega) (by omega)
      have w17 := mx_clw_tr hp w16 (by rw [List.length_append, List.length_append, l6, ← Nat.add_assoc, ← Nat.add_assoc]; exact x2)
      obtain ⟨σ8, y1, y2, y3⟩ := pl_writeTo_152_1 (n := n) hp hs dp (a + (mx_ww (mx_wd K H i) ++ [am_w (48 + P i)] ++ mx_ww 5).length + L1.length + 1 + L2.length) o ((j - 1 : Nat) : Int) (by omega) σ7 (by rw [z7, z6, z5, z4]; omega) (by omega) (by rw [x3 o (by omega)]; exact u4)
      have w18 := mx_clw_tr hp w17 (by rw [List.length_append, List.length_append, List.length_append, l6, ← Nat.add_assoc, ← Nat.add_assoc, ← Nat.add_assoc]; exact y2)
      rw [← c10] at w18
      refine ⟨σ8, ?_, w18, fun x hx => by rw [y3 x hx, x3 x (by omega), u3 x hx, e3 x (by omega), d2 x hx]⟩
      rw [d4, e1, u1, show j1 - 1 + 1 = j1 by omega, x1, y1, ll]
      simp only [Nat.add_assoc]
end
