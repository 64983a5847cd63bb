/-! SORT, and all kinds together -/
theorem mx_half (a k : Nat) : a / 2 ^ (k + 1) = a / 2 ^ k / 2 := by rw [Nat.pow_succ, Nat.div_div_eq_div_mul]
theorem am_lshr_nat (a k : Nat) (hk : k < 64) : am_lshr (a : Int) (k : Int) = ((a / 2 ^ k : Nat) : Int) := by
  unfold am_lshr
  have e : ((k : Int) % 64).toNat = k := by omega
  rw [e, Int.natCast_ediv, Int.natCast_pow]
  rfl
theorem am_cmp_0 (a : Nat) : am_cmp (a : Int) 0 = if a = 0 then 0 else 1 := by
  unfold am_cmp
  by_cases h : a = 0
  · subst h; rfl
  · rw [if_neg (by omega), if_neg (by omega), if_neg h]
theorem bo_digitsOf_2_s (d n : Nat) (σ : am_M) (a : Nat) : ∀ (t k : Nat), k + t = 63 → bo_digitsOf_2 d a k σ n = some (((k + mx_dg t (a / 2 ^ k) : Nat) : Int), σ, n) := by
  intro t
  induction t with
  | zero => intro k hk; rw [bo_digitsOf_2_e, if_neg (by omega)]; rfl
  | succ t ih =>
    intro k hk
    have ih' := ih (k + 1) (by omega)
    rw [bo_digitsOf_2_e, if_pos (by omega), am_lshr_nat a k (by omega), am_cmp_0, mx_w_nat (by omega), ih', mx_half]
    show _ = some (((k + (if a / 2 ^ k = 0 then 0 else mx_dg t (a / 2 ^ k / 2) + 1) : Nat) : Int), σ, n)
    by_cases h : a / 2 ^ k = 0
    · rw [if_pos h, if_pos h, if_pos rfl]; rfl
    · rw [if_neg h, if_neg h, if_neg (by decide)]
      congr 3
      omega
theorem bo_digitsOf_s (d n : Nat) (σ : am_M) (a : Int) (h : 0 ≤ a) : bo_digitsOf (d + 1) a σ n = some (mx_digits a, σ, n) := by
  have := bo_digitsOf_2_s d n σ a.toNat 63 0 rfl
  rw [Int.toNat_of_nonneg h] at this
  rw [bo_digitsOf_e]
  have e : a.toNat / 2 ^ 0 = a.toNat := by simp
  rw [e, Nat.zero_add] at this
  exact this
theorem mo_works_162_s (d n : Nat) (σ : am_M) (v2 v4 v6 : Int) : ∀ (t a c : Nat), a < 2 ^ t → (c : Int) + t < 1000 → t < 63 → mo_works_162 d v2 v4 v6 c a σ n = (mo_works d 0 v2 v4 v6 σ n).bind fun q1 => some (am_x (q1.1 + am_x (v2 * ((c + mx_dg t a : Nat) : Int))), q1.2.1, q1.2.2) := by
  intro t
  induction t with
  | zero =>
    intro a c ha hc ht
    have : a = 0 := by simpa using ha
    subst this
    rw [mo_works_162_e, am_cmp_0, if_pos rfl, if_neg (by decide)]
    rfl
  | succ t ih =>
    intro a c ha hc ht
    rw [mo_works_162_e, am_cmp_0]
    show _ = (mo_works d 0 v2 v4 v6 σ n).bind fun q1 => some (am_x (q1.1 + am_x (v2 * ((c + (if a = 0 then 0 else mx_dg t (a / 2) + 1) : Nat) : Int))), q1.2.1, q1.2.2)
    by_cases h : a = 0
    · rw [if_pos h, if_pos h, if_neg (by decide)]; rfl
    · rw [if_neg h, if_neg h, if_pos (by decide)]
      have h2 : a / 2 < 2 ^ t := by
        rw [Nat.pow_succ] at ha; omega
      have ha63 : a < 2 ^ 63 := Nat.lt_of_lt_of_le ha (Nat.pow_le_pow_right (by decide) (by omega))
      have := ih (a / 2) (c + 1) h2 (by omega) (by omega)
      have e1 : am_x ((c : Int) + 1) = ((c + 1 : Nat) : Int) := by rw [mx_x_id (by omega) (by omega)]; rfl
      have e2 : am_x (Int.tdiv (a : Int) 2) = ((a / 2 : Nat) : Int) := by
        rw [Int.tdiv_eq_ediv_of_nonneg (by omega), mx_x_id (by omega) (by omega)]; rfl
      rw [e1, e2, this, Nat.add_assoc, Nat.add_comm 1]
theorem mx_dg_le : ∀ (t a : Nat), mx_dg t a ≤ t := by
  intro t
  induction t with
  | zero => intro a; exact Nat.le_refl _
  | succ t ih =>
    intro a
    show (if a = 0 then 0 else mx_dg t (a / 2) + 1) ≤ t + 1
    split
    · omega
    · have := ih (a / 2); omega
theorem mx_dg_more : ∀ (t s a : Nat), a < 2 ^ t → t ≤ s → mx_dg s a = mx_dg t a := by
  intro t
  induction t with
  | zero =>
    intro s a ha hs
    have : a = 0 := by simpa using ha
    subst this
    cases s <;> rfl
  | succ t ih =>
    intro s a ha hs
    cases s with
    | zero => omega
    | succ s =>
      show (if a = 0 then 0 else mx_dg s (a / 2) + 1) = (if a = 0 then 0 else mx_dg t (a / 2) + 1)
      rw [ih s (a / 2) (by rw [Nat.pow_succ] at ha; omega) (by omega)]
set_option maxRecDepth 100000 in
set_option maxHeartbeats 4000000 in
theorem bo_run10B (d : Nat) (a b r : Int) (σ : am_M) (n : Nat) (ha : 0 ≤ a) : bo_priceByB (d + 4) 10 a b r σ n = some (am_x (a + am_x (0 + am_x (a * mx_digits a))), am_wr (am_wr (am_wr (am_wr (am_wr (am_wr (am_wr (am_wr (am_wr (am_wr (am_wr (am_wr (am_wr (am_wr (am_wr σ 38 3 a) 38 4 b) 38 5 r) 38 2 0) 39 0 12) 38 2 1) 39 1 10) 38 2 2) 40 0 10) 39 2 100) 38 2 3) 40 0 100) 39 3 11) 38 2 4) 40 1 11, n) := by
  have h1 : bo_beginB (d + 3) 12 (am_wr (am_wr (am_wr (am_wr σ 38 3 a) 38 4 b) 38 5 r) 38 2 0) n = some (0, am_wr (am_wr (am_wr (am_wr (am_wr (am_wr σ 38 3 a) 38 4 b) 38 5 r) 38 2 0) 39 0 12) 38 2 1, n) := am_run_iff.mpr ⟨50, rfl⟩
  have h2 : bo_runFromB (d + 3) 10 1003 (am_wr (am_wr (am_wr (am_wr (am_wr (am_wr σ 38 3 a) 38 4 b) 38 5 r) 38 2 0) 39 0 12) 38 2 1) n = some (a, am_wr (am_wr (am_wr (am_wr (am_wr (am_wr (am_wr (am_wr (am_wr σ 38 3 a) 38 4 b) 38 5 r) 38 2 0) 39 0 12) 38 2 1) 39 1 10) 38 2 2) 40 0 10, n) := am_run_iff.mpr ⟨200, rfl⟩
  have h3 : bo_beginB (d + 2) 100 (am_wr (am_wr (am_wr (am_wr (am_wr (am_wr (am_wr (am_wr (am_wr σ 38 3 a) 38 4 b) 38 5 r) 38 2 0) 39 0 12) 38 2 1) 39 1 10) 38 2 2) 40 0 10) n = some (0, am_wr (am_wr (am_wr (am_wr (am_wr (am_wr (am_wr (am_wr (am_wr (am_wr (am_wr σ 38 3 a) 38 4 b) 38 5 r) 38 2 0) 39 0 12) 38 2 1) 39 1 10) 38 2 2) 40 0 10) 39 2 100) 38 2 3, n) := am_run_iff.mpr ⟨50, rfl⟩
  have h4 : bo_beginB (d + 2) 11 (am_wr (am_wr (am_wr (am_wr (am_wr (am_wr (am_wr (am_wr (am_wr (am_wr (am_wr (am_wr σ 38 3 a) 38 4 b) 38 5 r) 38 2 0) 39 0 12) 38 2 1) 39 1 10) 38 2 2) 40 0 10) 39 2 100) 38 2 3) 40 0 100) n = some (0, am_wr (am_wr (am_wr (am_wr (am_wr (am_wr (am_wr (am_wr (am_wr (am_wr (am_wr (am_wr (am_wr (am_wr σ 38 3 a) 38 4 b) 38 5 r) 38 2 0) 39 0 12) 38 2 1) 39 1 10) 38 2 2) 40 0 10) 39 2 100) 38 2 3) 40 0 100) 39 3 11) 38 2 4, n) := am_run_iff.mpr ⟨50, rfl⟩
  have e3 : (am_wr (am_wr (am_wr (am_wr (am_wr (am_wr (am_wr (am_wr (am_wr (am_wr (am_wr (am_wr (am_wr (am_wr (am_wr σ 38 3 a) 38 4 b) 38 5 r) 38 2 0) 39 0 12) 38 2 1) 39 1 10) 38 2 2) 40 0 10) 39 2 100) 38 2 3) 40 0 100) 39 3 11) 38 2 4) 40 1 11) 38 3 = a := rfl
  have e1 : (am_wr (am_wr (am_wr (am_wr (am_wr (am_wr (am_wr (am_wr (am_wr (am_wr (am_wr (am_wr (am_wr (am_wr (am_wr σ 38 3 a) 38 4 b) 38 5 r) 38 2 0) 39 0 12) 38 2 1) 39 1 10) 38 2 2) 40 0 10) 39 2 100) 38 2 3) 40 0 100) 39 3 11) 38 2 4) 40 1 11) 40 1 = 11 := rfl
  have e0 : (am_wr (am_wr (am_wr (am_wr (am_wr (am_wr (am_wr (am_wr (am_wr (am_wr (am_wr (am_wr (am_wr (am_wr (am_wr σ 38 3 a) 38 4 b) 38 5 r) 38 2 0) 39 0 12) 38 2 1) 39 1 10) 38 2 2) 40 0 10) 39 2 100) 38 2 3) 40 0 100) 39 3 11) 38 2 4) 40 1 11) 40 0 = 100 := rfl
  rw [bo_priceByB_e]
  dsimp only [am_m]
  rw [if_neg (by decide), bo_priceByB_36_e, h1, Option.bind_some]
  dsimp only
  rw [h2, Option.bind_some]
  dsimp only
  rw [bo_runFromB_e, bo_runFromB_8_e, if_pos (by decide), if_neg (by decide), if_pos (by decide), mx_cx_t (L := 12) rfl (by decide) (by decide), if_neg (by decide), mx_cx_t (L := 12) rfl (by decide) (by decide)]
  rw [show am_kc (1004 : Int).toNat (10 : Int).toNat = 100 from rfl, h3, Option.bind_some]
  dsimp only [am_m]
  rw [mx_cx_t (L := 12) rfl (by decide) (by decide), ix_40 (by decide) (by decide), mx_cx_t (L := 12) rfl (by decide) (by decide)]
  rw [show am_kc 1002 (10 : Int).toNat = 0 from rfl, show am_w ((0 : Int) + 1) = 1 from rfl, show (0 : Int).toNat = 0 from rfl]
  rw [bo_runFromB_8_e, if_pos (by decide), if_neg (by decide), if_pos (by decide), mx_cx_t (L := 12) rfl (by decide) (by decide), if_neg (by decide), mx_cx_t (L := 12) rfl (by decide) (by decide)]
  rw [show am_kc (1004 : Int).toNat (0 : Int).toNat = 11 from rfl, h4, Option.bind_some]
  dsimp only [am_m]
  rw [mx_cx_t (L := 12) rfl (by decide) (by decide), ix_40 (by decide) (by decide), mx_cx_t (L := 12) rfl (by decide) (by decide)]
  rw [show am_kc 1002 (0 : Int).toNat = -1 from rfl, show am_w ((1 : Int) + 1) = 2 from rfl, show (1 : Int).toNat = 1 from rfl]
  rw [bo_runFromB_8_e, if_pos (by decide), if_pos (by decide), show am_w ((2 : Int) - 1) = 1 from rfl]
  rw [bo_runFromB_77_e, if_neg (by decide), ix_40 (by decide) (by decide), show (1 : Int).toNat = 1 from rfl, e1, bo_endOfB_e]
  rw [if_neg (by decide), if_neg (by decide), if_neg (by decide), if_neg (by decide), if_neg (by decide), if_neg (by decide), if_neg (by decide), if_neg (by decide), if_neg (by decide), Option.bind_some]
  dsimp only
  rw [show am_w ((1 : Int) + -1) = 0 from rfl, bo_runFromB_77_e, if_neg (by decide), ix_40 (by decide) (by decide), show (0 : Int).toNat = 0 from rfl, e0, bo_endOfB_e]
  rw [if_neg (by decide), if_neg (by decide), if_neg (by decide), if_neg (by decide), if_neg (by decide), if_neg (by decide), if_neg (by decide), if_neg (by decide), if_pos (by decide), e3, bo_digitsOf_s _ _ _ _ ha, Option.bind_some, Option.bind_some]
  dsimp only
  rw [show am_w ((0 : Int) + -1) = -1 from rfl, bo_runFromB_77_e, if_pos (by decide), Option.bind_some]
  dsimp only
  rw [if_neg (by decide)]
set_option maxRecDepth 100000 in
set_option maxHeartbeats 4000000 in
theorem bo_run10A (d : Nat) (a b r : Int) (σ : am_M) (n : Nat) (ha : 0 ≤ a) : bo_priceByA (d + 4) 10 a b r σ n = some (am_x (a + am_x (0 + am_x (a * mx_digits a))), am_wr (am_wr (am_wr (am_wr (am_wr (am_wr (am_wr (am_wr (am_wr (am_wr (am_wr (am_wr (am_wr (am_wr (am_wr σ 54 3 a) 54 4 b) 54 5 r) 54 2 0) 55 0 12) 54 2 1) 55 1 10) 54 2 2) 56 0 10) 55 2 100) 54 2 3) 56 0 100) 55 3 11) 54 2 4) 56 1 11, n) := by
  have h1 : bo_beginA (d + 3) 12 (am_wr (am_wr (am_wr (am_wr σ 54 3 a) 54 4 b) 54 5 r) 54 2 0) n = some (0, am_wr (am_wr (am_wr (am_wr (am_wr (am_wr σ 54 3 a) 54 4 b) 54 5 r) 54 2 0) 55 0 12) 54 2 1, n) := am_run_iff.mpr ⟨50, rfl⟩
  have h2 : bo_runFromA (d + 3) 10 1003 (am_wr (am_wr (am_wr (am_wr (am_wr (am_wr σ 54 3 a) 54 4 b) 54 5 r) 54 2 0) 55 0 12) 54 2 1) n = some (a, am_wr (am_wr (am_wr (am_wr (am_wr (am_wr (am_wr (am_wr (am_wr σ 54 3 a) 54 4 b) 54 5 r) 54 2 0) 55 0 12) 54 2 1) 55 1 10) 54 2 2) 56 0 10, n) := am_run_iff.mpr ⟨200, rfl⟩
  have h3 : bo_beginA (d + 2) 100 (am_wr (am_wr (am_wr (am_wr (am_wr (am_wr (am_wr (am_wr (am_wr σ 54 3 a) 54 4 b) 54 5 r) 54 2 0) 55 0 12) 54 2 1) 55 1 10) 54 2 2) 56 0 10) n = some (0, am_wr (am_wr (am_wr (am_wr (am_wr (am_wr (am_wr (am_wr (am_wr (am_wr (am_wr σ 54 3 a) 54 4 b) 54 5 r) 54 2 0) 55 0 12) 54 2 1) 55 1 10) 54 2 2) 56 0 10) 55 2 100) 54 2 3, n) := am_run_iff.mpr ⟨50, rfl⟩
  have h4 : bo_beginA (d + 2) 11 (am_wr (am_wr (am_wr (am_wr (am_wr (am_wr (am_wr (am_wr (am_wr (am_wr (am_wr (am_wr σ 54 3 a) 54 4 b) 54 5 r) 54 2 0) 55 0 12) 54 2 1) 55 1 10) 54 2 2) 56 0 10) 55 2 100) 54 2 3) 56 0 100) n = some (0, am_wr (am_wr (am_wr (am_wr (am_wr (am_wr (am_wr (am_wr (am_wr (am_wr (am_wr (am_wr (am_wr (am_wr σ 54 3 a) 54 4 b) 54 5 r) 54 2 0) 55 0 12) 54 2 1) 55 1 10) 54 2 2) 56 0 10) 55 2 100) 54 2 3) 56 0 100) 55 3 11) 54 2 4, n) := am_run_iff.mpr ⟨50, rfl⟩
  have e3 : (am_wr (am_wr (am_wr (am_wr (am_wr (am_wr (am_wr (am_wr (am_wr (am_wr (am_wr (am_wr (am_wr (am_wr (am_wr σ 54 3 a) 54 4 b) 54 5 r) 54 2 0) 55 0 12) 54 2 1) 55 1 10) 54 2 2) 56 0 10) 55 2 100) 54 2 3) 56 0 100) 55 3 11) 54 2 4) 56 1 11) 54 3 = a := rfl
  have e1 : (am_wr (am_wr (am_wr (am_wr (am_wr (am_wr (am_wr (am_wr (am_wr (am_wr (am_wr (am_wr (am_wr (am_wr (am_wr σ 54 3 a) 54 4 b) 54 5 r) 54 2 0) 55 0 12) 54 2 1) 55 1 10) 54 2 2) 56 0 10) 55 2 100) 54 2 3) 56 0 100) 55 3 11) 54 2 4) 56 1 11) 56 1 = 11 := rfl
  have e0 : (am_wr (am_wr (am_wr (am_wr (am_wr (am_wr (am_wr (am_wr (am_wr (am_wr (am_wr (am_wr (am_wr (am_wr (am_wr σ 54 3 a) 54 4 b) 54 5 r) 54 2 0) 55 0 12) 54 2 1) 55 1 10) 54 2 2) 56 0 10) 55 2 100) 54 2 3) 56 0 100) 55 3 11) 54 2 4) 56 1 11) 56 0 = 100 := rfl
  rw [bo_priceByA_e]
  dsimp only [am_m]
  rw [if_neg (by decide), bo_priceByA_36_e, h1, Option.bind_some]
  dsimp only
  rw [h2, Option.bind_some]
  dsimp only
  rw [bo_runFromA_e, bo_runFromA_8_e, if_pos (by decide), if_neg (by decide), if_pos (by decide), mx_cx_t (L := 12) rfl (by decide) (by decide), if_neg (by decide), mx_cx_t (L := 12) rfl (by decide) (by decide)]
  rw [show am_kc (1004 : Int).toNat (10 : Int).toNat = 100 from rfl, h3, Option.bind_some]
  dsimp only [am_m]
  rw [mx_cx_t (L := 12) rfl (by decide) (by decide), ix_56 (by decide) (by decide), mx_cx_t (L := 12) rfl (by decide) (by decide)]
  rw [show am_kc 1002 (10 : Int).toNat = 0 from rfl, show am_w ((0 : Int) + 1) = 1 from rfl, show (0 : Int).toNat = 0 from rfl]
  rw [bo_runFromA_8_e, if_pos (by decide), if_neg (by decide), if_pos (by decide), mx_cx_t (L := 12) rfl (by decide) (by decide), if_neg (by decide), mx_cx_t (L := 12) rfl (by decide) (by decide)]
  rw [show am_kc (1004 : Int).toNat (0 : Int).toNat = 11 from rfl, h4, Option.bind_some]
  dsimp only [am_m]
  rw [mx_cx_t (L := 12) rfl (by decide) (by decide), ix_56 (by decide) (by decide), mx_cx_t (L := 12) rfl (by decide) (by decide)]
  rw [show am_kc 1002 (0 : Int).toNat = -1 from rfl, show am_w ((1 : Int) + 1) = 2 from rfl, show (1 : Int).toNat = 1 from rfl]
  rw [bo_runFromA_8_e, if_pos (by decide), if_pos (by decide), show am_w ((2 : Int) - 1) = 1 from rfl]
  rw [bo_runFromA_77_e, if_neg (by decide), ix_56 (by decide) (by decide), show (1 : Int).toNat = 1 from rfl, e1, bo_endOfA_e]
  rw [if_neg (by decide), if_neg (by decide), if_neg (by decide), if_neg (by decide), if_neg (by decide), if_neg (by decide), if_neg (by decide), if_neg (by decide), if_neg (by decide), Option.bind_some]
  dsimp only
  rw [show am_w ((1 : Int) + -1) = 0 from rfl, bo_runFromA_77_e, if_neg (by decide), ix_56 (by decide) (by decide), show (0 : Int).toNat = 0 from rfl, e0, bo_endOfA_e]
  rw [if_neg (by decide), if_neg (by decide), if_neg (by decide), if_neg (by decide), if_neg (by decide), if_neg (by decide), if_neg (by decide), if_neg (by decide), if_pos (by decide), e3, bo_digitsOf_s _ _ _ _ ha, Option.bind_some, Option.bind_some]
  dsimp only
  rw [show am_w ((0 : Int) + -1) = -1 from rfl, bo_runFromA_77_e, if_pos (by decide), Option.bind_some]
  dsimp only
  rw [if_neg (by decide)]
