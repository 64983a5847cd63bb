/-! PRICES: all kinds -/
set_option maxRecDepth 100000 in
set_option maxHeartbeats 4000000 in
theorem mo_q10 (d : Nat) (a b r : Int) (σ : am_M) (n : Nat) (ha : 0 ≤ a ∧ a ≤ 1000000) : mo_priceOf (d + 8) 10 a b r (am_wr σ 82 7 0) n = some (am_x (a + am_x (0 + am_x (a * mx_digits a))), am_wr (am_wr (am_wr (am_wr (am_wr (am_wr (am_wr (am_wr (am_wr σ 82 7 0) 134 0 12) 82 7 1) 134 1 10) 82 7 2) 134 2 100) 82 7 3) 134 3 11) 82 7 4, n) := by
  have h1 : mo_runs (d + 7) 12 (am_wr σ 82 7 0) n = some (0, am_wr (am_wr (am_wr σ 82 7 0) 134 0 12) 82 7 1, n) := am_run_iff.mpr ⟨50, rfl⟩
  have h2 : mo_reads2 (d + 7) 10 a b r (am_wr (am_wr (am_wr σ 82 7 0) 134 0 12) 82 7 1) n = some (a, am_wr (am_wr (am_wr (am_wr (am_wr σ 82 7 0) 134 0 12) 82 7 1) 134 1 10) 82 7 2, n) := am_run_iff.mpr ⟨100, rfl⟩
  have h3 : mo_runs (d + 6) 100 (am_wr (am_wr (am_wr (am_wr (am_wr σ 82 7 0) 134 0 12) 82 7 1) 134 1 10) 82 7 2) n = some (0, am_wr (am_wr (am_wr (am_wr (am_wr (am_wr (am_wr σ 82 7 0) 134 0 12) 82 7 1) 134 1 10) 82 7 2) 134 2 100) 82 7 3, n) := am_run_iff.mpr ⟨50, rfl⟩
  have h4 : mo_works (d + 6) 0 a b r (am_wr (am_wr (am_wr (am_wr (am_wr (am_wr (am_wr σ 82 7 0) 134 0 12) 82 7 1) 134 1 10) 82 7 2) 134 2 100) 82 7 3) n = some (0, am_wr (am_wr (am_wr (am_wr (am_wr (am_wr (am_wr (am_wr (am_wr σ 82 7 0) 134 0 12) 82 7 1) 134 1 10) 82 7 2) 134 2 100) 82 7 3) 134 3 11) 82 7 4, n) := am_run_iff.mpr ⟨100, rfl⟩
  have h5 := mo_works_162_s (d + 6) n (am_wr (am_wr (am_wr (am_wr (am_wr (am_wr (am_wr σ 82 7 0) 134 0 12) 82 7 1) 134 1 10) 82 7 2) 134 2 100) 82 7 3) a b r 62 a.toNat 0 (Nat.lt_of_lt_of_le (show a.toNat < 2 ^ 20 by omega) (by decide)) (by decide) (by decide)
  rw [Int.toNat_of_nonneg ha.1, h4, Option.bind_some, Nat.zero_add] at h5
  have e : ((mx_dg 62 a.toNat : Nat) : Int) = mx_digits a := by
    unfold mx_digits
    rw [mx_dg_more 62 63 a.toNat (Nat.lt_of_lt_of_le (show a.toNat < 2 ^ 20 by omega) (by decide)) (by decide)]
  rw [e] at h5
  rw [mo_priceOf_e, if_neg (by decide), h1, Option.bind_some]
  dsimp only
  rw [h2, Option.bind_some]
  dsimp only
  rw [mo_works_e, if_neg (by decide), if_neg (by decide), if_neg (by decide), if_neg (by decide), if_neg (by decide), if_neg (by decide), if_neg (by decide), if_neg (by decide), if_neg (by decide), if_neg (by decide), if_pos (by decide), h3, Option.bind_some]
  dsimp only
  have h5 : mo_works_162 (d + 6) a b r 0 a (am_wr (am_wr (am_wr (am_wr (am_wr (am_wr (am_wr σ 82 7 0) 134 0 12) 82 7 1) 134 1 10) 82 7 2) 134 2 100) 82 7 3) n = some (am_x (0 + am_x (a * mx_digits a)), am_wr (am_wr (am_wr (am_wr (am_wr (am_wr (am_wr (am_wr (am_wr σ 82 7 0) 134 0 12) 82 7 1) 134 1 10) 82 7 2) 134 2 100) 82 7 3) 134 3 11) 82 7 4, n) := h5
  rw [h5, Option.bind_some]
set_option maxRecDepth 100000 in
set_option maxHeartbeats 4000000 in
theorem mo_s10 (d : Nat) (a b r : Int) (σ : am_M) (n : Nat) (ha : 0 ≤ a ∧ a ≤ 1000000) : mo_priceOf (d + 8) 10 a b r (am_wr σ 82 7 20) n = some (am_x (a + am_x (0 + am_x (a * mx_digits a))), am_wr (am_wr (am_wr (am_wr (am_wr σ 82 7 20) 82 7 21) 82 7 22) 82 7 23) 82 7 24, n) := by
  have h1 : mo_runs (d + 7) 12 (am_wr σ 82 7 20) n = some (0, am_wr (am_wr σ 82 7 20) 82 7 21, n) := am_run_iff.mpr ⟨50, rfl⟩
  have h2 : mo_reads2 (d + 7) 10 a b r (am_wr (am_wr σ 82 7 20) 82 7 21) n = some (a, am_wr (am_wr (am_wr σ 82 7 20) 82 7 21) 82 7 22, n) := am_run_iff.mpr ⟨100, rfl⟩
  have h3 : mo_runs (d + 6) 100 (am_wr (am_wr (am_wr σ 82 7 20) 82 7 21) 82 7 22) n = some (0, am_wr (am_wr (am_wr (am_wr σ 82 7 20) 82 7 21) 82 7 22) 82 7 23, n) := am_run_iff.mpr ⟨50, rfl⟩
  have h4 : mo_works (d + 6) 0 a b r (am_wr (am_wr (am_wr (am_wr σ 82 7 20) 82 7 21) 82 7 22) 82 7 23) n = some (0, am_wr (am_wr (am_wr (am_wr (am_wr σ 82 7 20) 82 7 21) 82 7 22) 82 7 23) 82 7 24, n) := am_run_iff.mpr ⟨100, rfl⟩
  have h5 := mo_works_162_s (d + 6) n (am_wr (am_wr (am_wr (am_wr σ 82 7 20) 82 7 21) 82 7 22) 82 7 23) a b r 62 a.toNat 0 (Nat.lt_of_lt_of_le (show a.toNat < 2 ^ 20 by omega) (by decide)) (by decide) (by decide)
  rw [Int.toNat_of_nonneg ha.1, h4, Option.bind_some, Nat.zero_add] at h5
  have e : ((mx_dg 62 a.toNat : Nat) : Int) = mx_digits a := by
    unfold mx_digits
    rw [mx_dg_more 62 63 a.toNat (Nat.lt_of_lt_of_le (show a.toNat < 2 ^ 20 by omega) (by decide)) (by decide)]
  rw [e] at h5
  rw [mo_priceOf_e, if_neg (by decide), h1, Option.bind_some]
  dsimp only
  rw [h2, Option.bind_some]
  dsimp only
  rw [mo_works_e, if_neg (by decide), if_neg (by decide), if_neg (by decide), if_neg (by decide), if_neg (by decide), if_neg (by decide), if_neg (by decide), if_neg (by decide), if_neg (by decide), if_neg (by decide), if_pos (by decide), h3, Option.bind_some]
  dsimp only
  have h5 : mo_works_162 (d + 6) a b r 0 a (am_wr (am_wr (am_wr (am_wr σ 82 7 20) 82 7 21) 82 7 22) 82 7 23) n = some (am_x (0 + am_x (a * mx_digits a)), am_wr (am_wr (am_wr (am_wr (am_wr σ 82 7 20) 82 7 21) 82 7 22) 82 7 23) 82 7 24, n) := h5
  rw [h5, Option.bind_some]
theorem mx_dig_rg {a : Int} (ha : 0 ≤ a ∧ a ≤ 1000000) : 0 ≤ mx_digits a ∧ 0 ≤ a * mx_digits a ∧ a * mx_digits a ≤ 63000000 := by
  have h1 : 0 ≤ mx_digits a := Int.natCast_nonneg _
  have h2 : mx_digits a ≤ 63 := by
    unfold mx_digits
    have := mx_dg_le 63 a.toNat
    omega
  refine ⟨h1, Int.mul_nonneg ha.1 h1, ?_⟩
  have := Int.mul_le_mul ha.2 h2 h1 (by decide)
  omega
theorem mx_ab_rg {a b : Int} (ha : 0 ≤ a ∧ a ≤ 1000000) (hb : 0 ≤ b ∧ b ≤ 1000000) : 0 ≤ a * b ∧ a * b ≤ 1000000000000 := by
  refine ⟨Int.mul_nonneg ha.1 hb.1, ?_⟩
  have := Int.mul_le_mul ha.2 hb.2 hb.1 (by decide)
  omega
theorem mx_v0 {a b r : Int} (ha : 0 ≤ a ∧ a ≤ 1000000) (hb : 0 ≤ b ∧ b ≤ 1000000) (hr : 0 ≤ r ∧ r ≤ 1000000) : am_x (a + 0) = mx_pr 0 a b r := by
  have h1 := mx_ab_rg ha hb
  have h2 := mx_dig_rg ha
  have e : mx_pr 0 a b r = a + 0 := rfl
  rw [e]
  generalize a * b = u at *
  generalize a * mx_digits a = v at *
  simp (disch := first | omega | decide) only [mx_x_id]
  try omega
theorem mx_v1 {a b r : Int} (ha : 0 ≤ a ∧ a ≤ 1000000) (hb : 0 ≤ b ∧ b ≤ 1000000) (hr : 0 ≤ r ∧ r ≤ 1000000) : am_x (a + 0) = mx_pr 1 a b r := by
  have h1 := mx_ab_rg ha hb
  have h2 := mx_dig_rg ha
  have e : mx_pr 1 a b r = a + 0 := rfl
  rw [e]
  generalize a * b = u at *
  generalize a * mx_digits a = v at *
  simp (disch := first | omega | decide) only [mx_x_id]
  try omega
theorem mx_v2 {a b r : Int} (ha : 0 ≤ a ∧ a ≤ 1000000) (hb : 0 ≤ b ∧ b ≤ 1000000) (hr : 0 ≤ r ∧ r ≤ 1000000) : am_x (a + 0) = mx_pr 2 a b r := by
  have h1 := mx_ab_rg ha hb
  have h2 := mx_dig_rg ha
  have e : mx_pr 2 a b r = a + 0 := rfl
  rw [e]
  generalize a * b = u at *
  generalize a * mx_digits a = v at *
  simp (disch := first | omega | decide) only [mx_x_id]
  try omega
theorem mx_v3 {a b r : Int} (ha : 0 ≤ a ∧ a ≤ 1000000) (hb : 0 ≤ b ∧ b ≤ 1000000) (hr : 0 ≤ r ∧ r ≤ 1000000) : am_x (am_x (a + b) + am_x (0 + r)) = mx_pr 3 a b r := by
  have h1 := mx_ab_rg ha hb
  have h2 := mx_dig_rg ha
  have e : mx_pr 3 a b r = (a + b) + r := rfl
  rw [e]
  generalize a * b = u at *
  generalize a * mx_digits a = v at *
  simp (disch := first | omega | decide) only [mx_x_id]
  try omega
theorem mx_v4 {a b r : Int} (ha : 0 ≤ a ∧ a ≤ 1000000) (hb : 0 ≤ b ∧ b ≤ 1000000) (hr : 0 ≤ r ∧ r ≤ 1000000) : am_x (am_x (a + b) + am_x (am_x (0 + r) + b)) = mx_pr 4 a b r := by
  have h1 := mx_ab_rg ha hb
  have h2 := mx_dig_rg ha
  have e : mx_pr 4 a b r = (a + b) + (r + b) := rfl
  rw [e]
  generalize a * b = u at *
  generalize a * mx_digits a = v at *
  simp (disch := first | omega | decide) only [mx_x_id]
  try omega
theorem mx_v5 {a b r : Int} (ha : 0 ≤ a ∧ a ≤ 1000000) (hb : 0 ≤ b ∧ b ≤ 1000000) (hr : 0 ≤ r ∧ r ≤ 1000000) : am_x (am_x (am_x (a + b) + r) + am_x (0 + r)) = mx_pr 5 a b r := by
  have h1 := mx_ab_rg ha hb
  have h2 := mx_dig_rg ha
  have e : mx_pr 5 a b r = (a + b + r) + r := rfl
  rw [e]
  generalize a * b = u at *
  generalize a * mx_digits a = v at *
  simp (disch := first | omega | decide) only [mx_x_id]
  try omega
theorem mx_v6 {a b r : Int} (ha : 0 ≤ a ∧ a ≤ 1000000) (hb : 0 ≤ b ∧ b ≤ 1000000) (hr : 0 ≤ r ∧ r ≤ 1000000) : am_x (am_x (a + b) + am_x (am_x (0 + r) + am_x (a * b))) = mx_pr 6 a b r := by
  have h1 := mx_ab_rg ha hb
  have h2 := mx_dig_rg ha
  have e : mx_pr 6 a b r = (a + b) + (r + a * b) := rfl
  rw [e]
  generalize a * b = u at *
  generalize a * mx_digits a = v at *
  simp (disch := first | omega | decide) only [mx_x_id]
  try omega
theorem mx_v7 {a b r : Int} (ha : 0 ≤ a ∧ a ≤ 1000000) (hb : 0 ≤ b ∧ b ≤ 1000000) (hr : 0 ≤ r ∧ r ≤ 1000000) : am_x (a + am_x (0 + r)) = mx_pr 7 a b r := by
  have h1 := mx_ab_rg ha hb
  have h2 := mx_dig_rg ha
  have e : mx_pr 7 a b r = a + r := rfl
  rw [e]
  generalize a * b = u at *
  generalize a * mx_digits a = v at *
  simp (disch := first | omega | decide) only [mx_x_id]
  try omega
theorem mx_v8 {a b r : Int} (ha : 0 ≤ a ∧ a ≤ 1000000) (hb : 0 ≤ b ∧ b ≤ 1000000) (hr : 0 ≤ r ∧ r ≤ 1000000) : am_x (am_x (a * 2) + am_x (0 + r)) = mx_pr 8 a b r := by
  have h1 := mx_ab_rg ha hb
  have h2 := mx_dig_rg ha
  have e : mx_pr 8 a b r = (a * 2) + r := rfl
  rw [e]
  generalize a * b = u at *
  generalize a * mx_digits a = v at *
  simp (disch := first | omega | decide) only [mx_x_id]
  try omega
theorem mx_v9 {a b r : Int} (ha : 0 ≤ a ∧ a ≤ 1000000) (hb : 0 ≤ b ∧ b ≤ 1000000) (hr : 0 ≤ r ∧ r ≤ 1000000) : am_x (a + am_x (0 + r)) = mx_pr 9 a b r := by
  have h1 := mx_ab_rg ha hb
  have h2 := mx_dig_rg ha
  have e : mx_pr 9 a b r = a + r := rfl
  rw [e]
  generalize a * b = u at *
  generalize a * mx_digits a = v at *
  simp (disch := first | omega | decide) only [mx_x_id]
  try omega
theorem mx_v10 {a b r : Int} (ha : 0 ≤ a ∧ a ≤ 1000000) (hb : 0 ≤ b ∧ b ≤ 1000000) (hr : 0 ≤ r ∧ r ≤ 1000000) : am_x (a + am_x (0 + am_x (a * mx_digits a))) = mx_pr 10 a b r := by
  have h1 := mx_ab_rg ha hb
  have h2 := mx_dig_rg ha
  have e : mx_pr 10 a b r = a + (a * mx_digits a) := rfl
  rw [e]
  generalize a * b = u at *
  generalize a * mx_digits a = v at *
  simp (disch := first | omega | decide) only [mx_x_id]
  try omega
theorem mx_v11 {a b r : Int} (ha : 0 ≤ a ∧ a ≤ 1000000) (hb : 0 ≤ b ∧ b ≤ 1000000) (hr : 0 ≤ r ∧ r ≤ 1000000) : am_x (am_x (a + 0) * 3) = mx_pr 11 a b r := by
  have h1 := mx_ab_rg ha hb
  have h2 := mx_dig_rg ha
  have e : mx_pr 11 a b r = (a + 0) * 3 := rfl
  rw [e]
  generalize a * b = u at *
  generalize a * mx_digits a = v at *
  simp (disch := first | omega | decide) only [mx_x_id]
  try omega
theorem mx_12 {p : Int → Prop} (h0 : p 0) (h1 : p 1) (h2 : p 2) (h3 : p 3) (h4 : p 4) (h5 : p 5) (h6 : p 6) (h7 : p 7) (h8 : p 8) (h9 : p 9) (h10 : p 10) (h11 : p 11) (k : Int) (hk : 0 ≤ k ∧ k ≤ 11) : p k := by
  rcases (by omega : k = 0 ∨ k = 1 ∨ k = 2 ∨ k = 3 ∨ k = 4 ∨ k = 5 ∨ k = 6 ∨ k = 7 ∨ k = 8 ∨ k = 9 ∨ k = 10 ∨ k = 11) with e | e | e | e | e | e | e | e | e | e | e | e <;> subst e <;> assumption
theorem bo_priceB_s (d : Nat) (k a b r : Int) (σ : am_M) (n : Nat) (hk : 0 ≤ k ∧ k ≤ 11) (ha : 0 ≤ a ∧ a ≤ 1000000) (hb : 0 ≤ b ∧ b ≤ 1000000) (hr : 0 ≤ r ∧ r ≤ 1000000) :
    ∃ σ' : am_M, bo_priceByB (d + 4) k a b r σ n = some (mx_pr k a b r, σ', n) ∧ mx_Fr [38, 39, 40] σ σ' ∧ σ' 38 2 = (mx_trl k).length ∧ ∀ i : Nat, i < (mx_trl k).length → σ' 39 i = (mx_trl k).getD i 0 := by
  revert k
  refine fun k hk => mx_12 (p := fun k => ∃ σ' : am_M, bo_priceByB (d + 4) k a b r σ n = some (mx_pr k a b r, σ', n) ∧ mx_Fr [38, 39, 40] σ σ' ∧ σ' 38 2 = (mx_trl k).length ∧ ∀ i : Nat, i < (mx_trl k).length → σ' 39 i = (mx_trl k).getD i 0) ?_ ?_ ?_ ?_ ?_ ?_ ?_ ?_ ?_ ?_ ?_ ?_ k hk
  · obtain ⟨σ', p1, p2, p3, t0, t1, t2⟩ := bo_pB0 d a b r σ n
    refine ⟨σ', by rw [p1, mx_v0 ha hb hr], p2, p3, fun i hi => ?_⟩
    have hi : i < 3 := hi
    rcases (by omega : i = 0 ∨ i = 1 ∨ i = 2) with e | e | e <;> subst e <;> assumption
  · obtain ⟨σ', p1, p2, p3, t0, t1, t2⟩ := bo_pB1 d a b r σ n
    refine ⟨σ', by rw [p1, mx_v1 ha hb hr], p2, p3, fun i hi => ?_⟩
    have hi : i < 3 := hi
    rcases (by omega : i = 0 ∨ i = 1 ∨ i = 2) with e | e | e <;> subst e <;> assumption
  · obtain ⟨σ', p1, p2, p3, t0, t1, t2⟩ := bo_pB2 d a b r σ n
    refine ⟨σ', by rw [p1, mx_v2 ha hb hr], p2, p3, fun i hi => ?_⟩
    have hi : i < 3 := hi
    rcases (by omega : i = 0 ∨ i = 1 ∨ i = 2) with e | e | e <;> subst e <;> assumption
  · obtain ⟨σ', p1, p2, p3, t0, t1, t2, t3, t4⟩ := bo_pB3 d a b r σ n
    refine ⟨σ', by rw [p1, mx_v3 ha hb hr], p2, p3, fun i hi => ?_⟩
    have hi : i < 5 := hi
    rcases (by omega : i = 0 ∨ i = 1 ∨ i = 2 ∨ i = 3 ∨ i = 4) with e | e | e | e | e <;> subst e <;> assumption
  · obtain ⟨σ', p1, p2, p3, t0, t1, t2, t3, t4, t5⟩ := bo_pB4 d a b r σ n
    refine ⟨σ', by rw [p1, mx_v4 ha hb hr], p2, p3, fun i hi => ?_⟩
    have hi : i < 6 := hi
    rcases (by omega : i = 0 ∨ i = 1 ∨ i = 2 ∨ i = 3 ∨ i = 4 ∨ i = 5) with e | e | e | e | e | e <;> subst e <;> assumption
  · obtain ⟨σ', p1, p2, p3, t0, t1, t2, t3, t4, t5⟩ := bo_pB5 d a b r σ n
    refine ⟨σ', by rw [p1, mx_v5 ha hb hr], p2, p3, fun i hi => ?_⟩
    have hi : i < 6 := hi
    rcases (by omega : i = 0 ∨ i = 1 ∨ i = 2 ∨ i = 3 ∨ i = 4 ∨ i = 5) with e | e | e | e | e | e <;> subst e <;> assumption
  · obtain ⟨σ', p1, p2, p3, t0, t1, t2, t3, t4, t5⟩ := bo_pB6 d a b r σ n
    refine ⟨σ', by rw [p1, mx_v6 ha hb hr], p2, p3, fun i hi => ?_⟩
    have hi : i < 6 := hi
    rcases (by omega : i = 0 ∨ i = 1 ∨ i = 2 ∨ i = 3 ∨ i = 4 ∨ i = 5) with e | e | e | e | e | e <;> subst e <;> assumption
  · obtain ⟨σ', p1, p2, p3, t0, t1, t2, t3⟩ := bo_pB7 d a b r σ n
    refine ⟨σ', by rw [p1, mx_v7 ha hb hr], p2, p3, fun i hi => ?_⟩
    have hi : i < 4 := hi
    rcases (by omega : i = 0 ∨ i = 1 ∨ i = 2 ∨ i = 3) with e | e | e | e <;> subst e <;> assumption
  · obtain ⟨σ', p1, p2, p3, t0, t1, t2, t3, t4⟩ := bo_pB8 d a b r σ n
    refine ⟨σ', by rw [p1, mx_v8 ha hb hr], p2, p3, fun i hi => ?_⟩
    have hi : i < 5 := hi
    rcases (by omega : i = 0 ∨ i = 1 ∨ i = 2 ∨ i = 3 ∨ i = 4) with e | e | e | e | e <;> subst e <;> assumption
  · obtain ⟨σ', p1, p2, p3, t0, t1, t2, t3⟩ := bo_pB9 d a b r σ n
    refine ⟨σ', by rw [p1, mx_v9 ha hb hr], p2, p3, fun i hi => ?_⟩
    have hi : i < 4 := hi
    rcases (by omega : i = 0 ∨ i = 1 ∨ i = 2 ∨ i = 3) with e | e | e | e <;> subst e <;> assumption
  · refine ⟨_, by rw [bo_run10B d a b r σ n ha.1, mx_v10 ha hb hr], by (intro i hi; simp only [List.mem_cons, List.not_mem_nil, or_false, not_or] at hi; simp (disch := first | omega | decide) only [mx_wr_ne]), rfl, fun i hi => ?_⟩
    have hi : i < 4 := hi
    rcases (by omega : i = 0 ∨ i = 1 ∨ i = 2 ∨ i = 3) with e | e | e | e <;> subst e <;> rfl
  · obtain ⟨σ', p1, p2, p3, t0, t1, t2, t3⟩ := bo_pB11 d a b r σ n
    refine ⟨σ', by rw [p1, mx_v11 ha hb hr], p2, p3, fun i hi => ?_⟩
    have hi : i < 4 := hi
    rcases (by omega : i = 0 ∨ i = 1 ∨ i = 2 ∨ i = 3) with e | e | e | e <;> subst e <;> assumption
theorem bo_priceA_s (d : Nat) (k a b r : Int) (σ : am_M) (n : Nat) (hk : 0 ≤ k ∧ k ≤ 11) (ha : 0 ≤ a ∧ a ≤ 1000000) (hb : 0 ≤ b ∧ b ≤ 1000000) (hr : 0 ≤ r ∧ r ≤ 1000000) :
    ∃ σ' : am_M, bo_priceByA (d + 4) k a b r σ n = some (mx_pr k a b r, σ', n) ∧ mx_Fr [54, 55, 56] σ σ' ∧ σ' 54 2 = (mx_trl k).length ∧ ∀ i : Nat, i < (mx_trl k).length → σ' 55 i = (mx_trl k).getD i 0 := by
  revert k
  refine fun k hk => mx_12 (p := fun k => ∃ σ' : am_M, bo_priceByA (d + 4) k a b r σ n = some (mx_pr k a b r, σ', n) ∧ mx_Fr [54, 55, 56] σ σ' ∧ σ' 54 2 = (mx_trl k).length ∧ ∀ i : Nat, i < (mx_trl k).length → σ' 55 i = (mx_trl k).getD i 0) ?_ ?_ ?_ ?_ ?_ ?_ ?_ ?_ ?_ ?_ ?_ ?_ k hk
  · obtain ⟨σ', p1, p2, p3, t0, t1, t2⟩ := bo_pA0 d a b r σ n
    refine ⟨σ', by rw [p1, mx_v0 ha hb hr], p2, p3, fun i hi => ?_⟩
    have hi : i < 3 := hi
    rcases (by omega : i = 0 ∨ i = 1 ∨ i = 2) with e | e | e <;> subst e <;> assumption
  · obtain ⟨σ', p1, p2, p3, t0, t1, t2⟩ := bo_pA1 d a b r σ n
    refine ⟨σ', by rw [p1, mx_v1 ha hb hr], p2, p3, fun i hi => ?_⟩
    have hi : i < 3 := hi
    rcases (by omega : i = 0 ∨ i = 1 ∨ i = 2) with e | e | e <;> subst e <;> assumption
  · obtain ⟨σ', p1, p2, p3, t0, t1, t2⟩ := bo_pA2 d a b r σ n
    refine ⟨σ', by rw [p1, mx_v2 ha hb hr], p2, p3, fun i hi => ?_⟩
    have hi : i < 3 := hi
    rcases (by omega : i = 0 ∨ i = 1 ∨ i = 2) with e | e | e <;> subst e <;> assumption
  · obtain ⟨σ', p1, p2, p3, t0, t1, t2, t3, t4⟩ := bo_pA3 d a b r σ n
    refine ⟨σ', by rw [p1, mx_v3 ha hb hr], p2, p3, fun i hi => ?_⟩
    have hi : i < 5 := hi
    rcases (by omega : i = 0 ∨ i = 1 ∨ i = 2 ∨ i = 3 ∨ i = 4) with e | e | e | e | e <;> subst e <;> assumption
  · obtain ⟨σ', p1, p2, p3, t0, t1, t2, t3, t4, t5⟩ := bo_pA4 d a b r σ n
    refine ⟨σ', by rw [p1, mx_v4 ha hb hr], p2, p3, fun i hi => ?_⟩
    have hi : i < 6 := hi
    rcases (by omega : i = 0 ∨ i = 1 ∨ i = 2 ∨ i = 3 ∨ i = 4 ∨ i = 5) with e | e | e | e | e | e <;> subst e <;> assumption
  · obtain ⟨σ', p1, p2, p3, t0, t1, t2, t3, t4, t5⟩ := bo_pA5 d a b r σ n
    refine ⟨σ', by rw [p1, mx_v5 ha hb hr], p2, p3, fun i hi => ?_⟩
    have hi : i < 6 := hi
    rcases (by omega : i = 0 ∨ i = 1 ∨ i = 2 ∨ i = 3 ∨ i = 4 ∨ i = 5) with e | e | e | e | e | e <;> subst e <;> assumption
  · obtain ⟨σ', p1, p2, p3, t0, t1, t2, t3, t4, t5⟩ := bo_pA6 d a b r σ n
    refine ⟨σ', by rw [p1, mx_v6 ha hb hr], p2, p3, fun i hi => ?_⟩
    have hi : i < 6 := hi
    rcases (by omega : i = 0 ∨ i = 1 ∨ i = 2 ∨ i = 3 ∨ i = 4 ∨ i = 5) with e | e | e | e | e | e <;> subst e <;> assumption
  · obtain ⟨σ', p1, p2, p3, t0, t1, t2, t3⟩ := bo_pA7 d a b r σ n
    refine ⟨σ', by rw [p1, mx_v7 ha hb hr], p2, p3, fun i hi => ?_⟩
    have hi : i < 4 := hi
    rcases (by omega : i = 0 ∨ i = 1 ∨ i = 2 ∨ i = 3) with e | e | e | e <;> subst e <;> assumption
  · obtain ⟨σ', p1, p2, p3, t0, t1, t2, t3, t4⟩ := bo_pA8 d a b r σ n
    refine ⟨σ', by rw [p1, mx_v8 ha hb hr], p2, p3, fun i hi => ?_⟩
    have hi : i < 5 := hi
    rcases (by omega : i = 0 ∨ i = 1 ∨ i = 2 ∨ i = 3 ∨ i = 4) with e | e | e | e | e <;> subst e <;> assumption
  · obtain ⟨σ', p1, p2, p3, t0, t1, t2, t3⟩ := bo_pA9 d a b r σ n
    refine ⟨σ', by rw [p1, mx_v9 ha hb hr], p2, p3, fun i hi => ?_⟩
    have hi : i < 4 := hi
    rcases (by omega : i = 0 ∨ i = 1 ∨ i = 2 ∨ i = 3) with e | e | e | e <;> subst e <;> assumption
  · refine ⟨_, by rw [bo_run10A d a b r σ n ha.1, mx_v10 ha hb hr], by (intro i hi; simp only [List.mem_cons, List.not_mem_nil, or_false, not_or] at hi; simp (disch := first | omega | decide) only [mx_wr_ne]), rfl, fun i hi => ?_⟩
    have hi : i < 4 := hi
    rcases (by omega : i = 0 ∨ i = 1 ∨ i = 2 ∨ i = 3) with e | e | e | e <;> subst e <;> rfl
  · obtain ⟨σ', p1, p2, p3, t0, t1, t2, t3⟩ := bo_pA11 d a b r σ n
    refine ⟨σ', by rw [p1, mx_v11 ha hb hr], p2, p3, fun i hi => ?_⟩
    have hi : i < 4 := hi
    rcases (by omega : i = 0 ∨ i = 1 ∨ i = 2 ∨ i = 3) with e | e | e | e <;> subst e <;> assumption
theorem mo_price0_s (d : Nat) (k a b r : Int) (σ : am_M) (n : Nat) (hk : 0 ≤ k ∧ k ≤ 11) (ha : 0 ≤ a ∧ a ≤ 1000000) (hb : 0 ≤ b ∧ b ≤ 1000000) (hr : 0 ≤ r ∧ r ≤ 1000000) :
    ∃ σ' : am_M, mo_priceOf (d + 8) k a b r (am_wr σ 82 7 0) n = some (mx_pr k a b r, σ', n) ∧ mx_Fr [82, 134] σ σ' ∧ (∀ j, j ≠ 7 → σ' 82 j = σ 82 j) ∧ σ' 82 7 = (mx_trl k).length ∧ ∀ i : Nat, i < (mx_trl k).length → σ' 134 i = (mx_trl k).getD i 0 := by
  refine mx_12 (p := fun k => ∃ σ' : am_M, mo_priceOf (d + 8) k a b r (am_wr σ 82 7 0) n = some (mx_pr k a b r, σ', n) ∧ mx_Fr [82, 134] σ σ' ∧ (∀ j, j ≠ 7 → σ' 82 j = σ 82 j) ∧ σ' 82 7 = (mx_trl k).length ∧ ∀ i : Nat, i < (mx_trl k).length → σ' 134 i = (mx_trl k).getD i 0) ?_ ?_ ?_ ?_ ?_ ?_ ?_ ?_ ?_ ?_ ?_ ?_ k hk
  · refine ⟨_, by rw [mo_q0 d a b r σ n, mx_v0 ha hb hr], by (intro i hi; simp only [List.mem_cons, List.not_mem_nil, or_false, not_or] at hi; simp (disch := first | omega | decide) only [mx_wr_ne]), fun j hj => by simp (disch := first | omega | decide) only [mx_wr_ne, mx_wr_off], rfl, fun i hi => ?_⟩
    have hi : i < 3 := hi
    rcases (by omega : i = 0 ∨ i = 1 ∨ i = 2) with e | e | e <;> subst e <;> rfl
  · refine ⟨_, by rw [mo_q1 d a b r σ n, mx_v1 ha hb hr], by (intro i hi; simp only [List.mem_cons, List.not_mem_nil, or_false, not_or] at hi; simp (disch := first | omega | decide) only [mx_wr_ne]), fun j hj => by simp (disch := first | omega | decide) only [mx_wr_ne, mx_wr_off], rfl, fun i hi => ?_⟩
    have hi : i < 3 := hi
    rcases (by omega : i = 0 ∨ i = 1 ∨ i = 2) with e | e | e <;> subst e <;> rfl
  · refine ⟨_, by rw [mo_q2 d a b r σ n, mx_v2 ha hb hr], by (intro i hi; simp only [List.mem_cons, List.not_mem_nil, or_false, not_or] at hi; simp (disch := first | omega | decide) only [mx_wr_ne]), fun j hj => by simp (disch := first | omega | decide) only [mx_wr_ne, mx_wr_off], rfl, fun i hi => ?_⟩
    have hi : i < 3 := hi
    rcases (by omega : i = 0 ∨ i = 1 ∨ i = 2) with e | e | e <;> subst e <;> rfl
  · refine ⟨_, by rw [mo_q3 d a b r σ n, mx_v3 ha hb hr], by (intro i hi; simp only [List.mem_cons, List.not_mem_nil, or_false, not_or] at hi; simp (disch := first | omega | decide) only [mx_wr_ne]), fun j hj => by simp (disch := first | omega | decide) only [mx_wr_ne, mx_wr_off], rfl, fun i hi => ?_⟩
    have hi : i < 5 := hi
    rcases (by omega : i = 0 ∨ i = 1 ∨ i = 2 ∨ i = 3 ∨ i = 4) with e | e | e | e | e <;> subst e <;> rfl
  · refine ⟨_, by rw [mo_q4 d a b r σ n, mx_v4 ha hb hr], by (intro i hi; simp only [List.mem_cons, List.not_mem_nil, or_false, not_or] at hi; simp (disch := first | omega | decide) only [mx_wr_ne]), fun j hj => by simp (disch := first | omega | decide) only [mx_wr_ne, mx_wr_off], rfl, fun i hi => ?_⟩
    have hi : i < 6 := hi
    rcases (by omega : i = 0 ∨ i = 1 ∨ i = 2 ∨ i = 3 ∨ i = 4 ∨ i = 5) with e | e | e | e | e | e <;> subst e <;> rfl
  · refine ⟨_, by rw [mo_q5 d a b r σ n, mx_v5 ha hb hr], by (intro i hi; simp only [List.mem_cons, List.not_mem_nil, or_false, not_or] at hi; simp (disch := first | omega | decide) only [mx_wr_ne]), fun j hj => by simp (disch := first | omega | decide) only [mx_wr_ne, mx_wr_off], rfl, fun i hi => ?_⟩
    have hi : i < 6 := hi
    rcases (by omega : i = 0 ∨ i = 1 ∨ i = 2 ∨ i = 3 ∨ i = 4 ∨ i = 5) with e | e | e | e | e | e <;> subst e <;> rfl
  · refine ⟨_, by rw [mo_q6 d a b r σ n, mx_v6 ha hb hr], by (intro i hi; simp only [List.mem_cons, List.not_mem_nil, or_false, not_or] at hi; simp (disch := first | omega | decide) only [mx_wr_ne]), fun j hj => by simp (disch := first | omega | decide) only [mx_wr_ne, mx_wr_off], rfl, fun i hi => ?_⟩
    have hi : i < 6 := hi
    rcases (by omega : i = 0 ∨ i = 1 ∨ i = 2 ∨ i = 3 ∨ i = 4 ∨ i = 5) with e | e | e | e | e | e <;> subst e <;> rfl
  · refine ⟨_, by rw [mo_q7 d a b r σ n, mx_v7 ha hb hr], by (intro i hi; simp only [List.mem_cons, List.not_mem_nil, or_false, not_or] at hi; simp (disch := first | omega | decide) only [mx_wr_ne]), fun j hj => by simp (disch := first | omega | decide) only [mx_wr_ne, mx_wr_off], rfl, fun i hi => ?_⟩
    have hi : i < 4 := hi
    rcases (by omega : i = 0 ∨ i = 1 ∨ i = 2 ∨ i = 3) with e | e | e | e <;> subst e <;> rfl
  · refine ⟨_, by rw [mo_q8 d a b r σ n, mx_v8 ha hb hr], by (intro i hi; simp only [List.mem_cons, List.not_mem_nil, or_false, not_or] at hi; simp (disch := first | omega | decide) only [mx_wr_ne]), fun j hj => by simp (disch := first | omega | decide) only [mx_wr_ne, mx_wr_off], rfl, fun i hi => ?_⟩
    have hi : i < 5 := hi
    rcases (by omega : i = 0 ∨ i = 1 ∨ i = 2 ∨ i = 3 ∨ i = 4) with e | e | e | e | e <;> subst e <;> rfl
  · refine ⟨_, by rw [mo_q9 d a b r σ n, mx_v9 ha hb hr], by (intro i hi; simp only [List.mem_cons, List.not_mem_nil, or_false, not_or] at hi; simp (disch := first | omega | decide) only [mx_wr_ne]), fun j hj => by simp (disch := first | omega | decide) only [mx_wr_ne, mx_wr_off], rfl, fun i hi => ?_⟩
    have hi : i < 4 := hi
    rcases (by omega : i = 0 ∨ i = 1 ∨ i = 2 ∨ i = 3) with e | e | e | e <;> subst e <;> rfl
  · refine ⟨_, by rw [mo_q10 d a b r σ n ha, mx_v10 ha hb hr], by (intro i hi; simp only [List.mem_cons, List.not_mem_nil, or_false, not_or] at hi; simp (disch := first | omega | decide) only [mx_wr_ne]), fun j hj => by simp (disch := first | omega | decide) only [mx_wr_ne, mx_wr_off], rfl, fun i hi => ?_⟩
    have hi : i < 4 := hi
    rcases (by omega : i = 0 ∨ i = 1 ∨ i = 2 ∨ i = 3) with e | e | e | e <;> subst e <;> rfl
  · refine ⟨_, by rw [mo_q11 d a b r σ n, mx_v11 ha hb hr], by (intro i hi; simp only [List.mem_cons, List.not_mem_nil, or_false, not_or] at hi; simp (disch := first | omega | decide) only [mx_wr_ne]), fun j hj => by simp (disch := first | omega | decide) only [mx_wr_ne, mx_wr_off], rfl, fun i hi => ?_⟩
    have hi : i < 4 := hi
    rcases (by omega : i = 0 ∨ i = 1 ∨ i = 2 ∨ i = 3) with e | e | e | e <;> subst e <;> rfl
theorem mx_wr_wr {σ : am_M} {a k : Nat} {v w : Int} : am_wr (am_wr σ a k v) a k w = am_wr σ a k w := funext fun i => funext fun j => by
  unfold am_wr
  split <;> rfl
theorem mo_silent_s (d : Nat) (k a b r : Int) (σ : am_M) (n : Nat) (hk : 0 ≤ k ∧ k ≤ 11) (ha : 0 ≤ a ∧ a ≤ 1000000) (hb : 0 ≤ b ∧ b ≤ 1000000) (hr : 0 ≤ r ∧ r ≤ 1000000) : mo_silent (d + 9) k a b r σ n = some (mx_pr k a b r, σ, n) := by
  refine mx_12 (p := fun k => mo_silent (d + 9) k a b r σ n = some (mx_pr k a b r, σ, n)) ?_ ?_ ?_ ?_ ?_ ?_ ?_ ?_ ?_ ?_ ?_ ?_ k hk
  · rw [mo_silent_e]
    dsimp only [am_m]
    rw [mo_s0 d a b r σ n, Option.bind_some, mx_v0 ha hb hr]
    simp only [mx_wr_wr, mx_wr_same]
  · rw [mo_silent_e]
    dsimp only [am_m]
    rw [mo_s1 d a b r σ n, Option.bind_some, mx_v1 ha hb hr]
    simp only [mx_wr_wr, mx_wr_same]
  · rw [mo_silent_e]
    dsimp only [am_m]
    rw [mo_s2 d a b r σ n, Option.bind_some, mx_v2 ha hb hr]
    simp only [mx_wr_wr, mx_wr_same]
  · rw [mo_silent_e]
    dsimp only [am_m]
    rw [mo_s3 d a b r σ n, Option.bind_some, mx_v3 ha hb hr]
    simp only [mx_wr_wr, mx_wr_same]
  · rw [mo_silent_e]
    dsimp only [am_m]
    rw [mo_s4 d a b r σ n, Option.bind_some, mx_v4 ha hb hr]
    simp only [mx_wr_wr, mx_wr_same]
  · rw [mo_silent_e]
    dsimp only [am_m]
    rw [mo_s5 d a b r σ n, Option.bind_some, mx_v5 ha hb hr]
    simp only [mx_wr_wr, mx_wr_same]
  · rw [mo_silent_e]
    dsimp only [am_m]
    rw [mo_s6 d a b r σ n, Option.bind_some, mx_v6 ha hb hr]
    simp only [mx_wr_wr, mx_wr_same]
  · rw [mo_silent_e]
    dsimp only [am_m]
    rw [mo_s7 d a b r σ n, Option.bind_some, mx_v7 ha hb hr]
    simp only [mx_wr_wr, mx_wr_same]
  · rw [mo_silent_e]
    dsimp only [am_m]
    rw [mo_s8 d a b r σ n, Option.bind_some, mx_v8 ha hb hr]
    simp only [mx_wr_wr, mx_wr_same]
  · rw [mo_silent_e]
    dsimp only [am_m]
    rw [mo_s9 d a b r σ n, Option.bind_some, mx_v9 ha hb hr]
    simp only [mx_wr_wr, mx_wr_same]
  · rw [mo_silent_e]
    dsimp only [am_m]
    rw [mo_s10 d a b r σ n ha, Option.bind_some, mx_v10 ha hb hr]
    simp only [mx_wr_wr, mx_wr_same]
  · rw [mo_silent_e]
    dsimp only [am_m]
    rw [mo_s11 d a b r σ n, Option.bind_some, mx_v11 ha hb hr]
    simp only [mx_wr_wr, mx_wr_same]
