/-! small answers -/
def mx_b (b : Bool) : Int := bif b then 1 else 0
theorem mx_b_0 {b : Bool} : (mx_b b = 0) = (b = false) := by cases b <;> simp [mx_b]
theorem mx_b_1 {b : Bool} : (mx_b b = 1) = (b = true) := by cases b <;> simp [mx_b]
theorem mx_b_01 {b : Bool} : (mx_b b = 0 ∨ mx_b b = 1) := by cases b <;> simp [mx_b]
theorem pm_isShelf_s (d : Nat) (v : Int) (σ : am_M) (n : Nat) : pm_isShelf (d + 1) v σ n = some (mx_b (decide (0 ≤ v ∧ v < 8)), σ, n) := by
  rw [pm_isShelf_e]
  (repeat' split) <;> first | (rw [decide_eq_true (by omega)]; rfl) | (rw [decide_eq_false (by omega)]; rfl)
theorem mo_isShelf_s (d : Nat) (v : Int) (σ : am_M) (n : Nat) : mo_isShelf (d + 1) v σ n = some (mx_b (decide (0 ≤ v ∧ v < 8)), σ, n) := by
  rw [mo_isShelf_e]
  (repeat' split) <;> first | (rw [decide_eq_true (by omega)]; rfl) | (rw [decide_eq_false (by omega)]; rfl)
theorem pm_isColumn_s (d : Nat) (v : Int) (σ : am_M) (n : Nat) : pm_isColumn (d + 1) v σ n = some (mx_b (decide (0 ≤ v ∧ v < 4)), σ, n) := by
  rw [pm_isColumn_e]
  (repeat' split) <;> first | (rw [decide_eq_true (by omega)]; rfl) | (rw [decide_eq_false (by omega)]; rfl)
theorem mo_isFrom_s (d : Nat) (v a b : Int) (σ : am_M) (n : Nat) : mo_isFrom (d + 1) v a b σ n = some (mx_b (decide (a ≤ v ∧ v ≤ b)), σ, n) := by
  rw [mo_isFrom_e]
  (repeat' split) <;> first | (rw [decide_eq_true (by omega)]; rfl) | (rw [decide_eq_false (by omega)]; rfl)
theorem mo_isGroup_s (d : Nat) (v : Int) (σ : am_M) (n : Nat) : mo_isGroup (d + 1) v σ n = some (mx_b (decide (0 ≤ v ∧ v < σ 82 2)), σ, n) := by
  rw [mo_isGroup_e]
  (repeat' split) <;> first | (rw [decide_eq_true (by omega)]; rfl) | (rw [decide_eq_false (by omega)]; rfl)
theorem mo_isExpression_s (d : Nat) (v : Int) (σ : am_M) (n : Nat) : mo_isExpression (d + 1) v σ n = some (mx_b (decide (0 ≤ v ∧ v < σ 82 1)), σ, n) := by
  rw [mo_isExpression_e]
  (repeat' split) <;> first | (rw [decide_eq_true (by omega)]; rfl) | (rw [decide_eq_false (by omega)]; rfl)
theorem me_isTable_s (d : Nat) (v : Int) (σ : am_M) (n : Nat) : me_isTable (d + 1) v σ n = some (mx_b (decide (0 ≤ v ∧ v < σ 2 0)), σ, n) := by
  rw [me_isTable_e]
  (repeat' split) <;> first | (rw [decide_eq_true (by omega)]; rfl) | (rw [decide_eq_false (by omega)]; rfl)
theorem me_isExpression_s (d : Nat) (v : Int) (σ : am_M) (n : Nat) : me_isExpression (d + 1) v σ n = some (mx_b (decide (0 ≤ v ∧ v < σ 2 3)), σ, n) := by
  rw [me_isExpression_e]
  (repeat' split) <;> first | (rw [decide_eq_true (by omega)]; rfl) | (rw [decide_eq_false (by omega)]; rfl)
theorem me_isGroup_s (d : Nat) (v : Int) (σ : am_M) (n : Nat) : me_isGroup (d + 1) v σ n = some (mx_b (decide (0 ≤ v ∧ v < σ 2 9)), σ, n) := by
  rw [me_isGroup_e]
  (repeat' split) <;> first | (rw [decide_eq_true (by omega)]; rfl) | (rw [decide_eq_false (by omega)]; rfl)
theorem pm_isPriced_s (d : Nat) (v : Int) (σ : am_M) (n : Nat) : pm_isPriced (d + 1) v σ n = some (mx_b (decide (0 ≤ v ∧ v ≤ 1000000)), σ, n) := by
  rw [pm_isPriced_e]
  (repeat' split) <;> first | (rw [decide_eq_true (by omega)]; rfl) | (rw [decide_eq_false (by omega)]; rfl)
theorem pm_isOrder_s (d : Nat) (v : Int) (σ : am_M) (n : Nat) : pm_isOrder (d + 2) v σ n = some (mx_b (decide (-1 ≤ v ∧ v ≤ 3)), σ, n) := by
  rw [pm_isOrder_e]
  simp only [pm_isColumn_s, Option.bind_some, mx_b_0, decide_eq_false_iff_not]
  (repeat' split) <;> first | (rw [decide_eq_true (by omega)]; rfl) | (rw [decide_eq_false (by omega)]; rfl)
theorem pm_isPlace_s (d : Nat) (v : Int) (σ : am_M) (n : Nat) : pm_isPlace (d + 3) v σ n = some (mx_b (decide (-1 ≤ v ∧ v ≤ 4)), σ, n) := by
  rw [pm_isPlace_e]
  simp only [pm_isOrder_s, Option.bind_some, mx_b_0, decide_eq_false_iff_not]
  (repeat' split) <;> first | (rw [decide_eq_true (by omega)]; rfl) | (rw [decide_eq_false (by omega)]; rfl)
theorem mo_isDemand_s (d : Nat) (v w : Int) (σ : am_M) (n : Nat) : mo_isDemand (d + 2) v w σ n = some (mx_b (decide ((-1 ≤ v ∧ v ≤ 3) ∧ -1 ≤ w ∧ w ≤ 4)), σ, n) := by
  rw [mo_isDemand_e]
  simp only [mo_isFrom_s, Option.bind_some, mx_b_0, decide_eq_false_iff_not]
  (repeat' split) <;> first | (rw [decide_eq_true (by omega)]; rfl) | (rw [decide_eq_false (by omega)]; rfl)
theorem pm_meets_s (d : Nat) (v w : Int) (σ : am_M) (n : Nat) : pm_meets (d + 1) v w σ n = some (mx_b (decide (w = -1 ∨ w = v)), σ, n) := by
  rw [pm_meets_e]
  (repeat' split) <;> first | (rw [decide_eq_true (by omega)]; rfl) | (rw [decide_eq_false (by omega)]; rfl)
theorem mo_meets_s (d : Nat) (v w : Int) (σ : am_M) (n : Nat) : mo_meets (d + 1) v w σ n = some (mx_b (decide (v = -1 ∨ v = w)), σ, n) := by
  rw [mo_meets_e]
  (repeat' split) <;> first | (rw [decide_eq_true (by omega)]; rfl) | (rw [decide_eq_false (by omega)]; rfl)
theorem mo_isWay_s (d : Nat) (v : Int) (σ : am_M) (n : Nat) : mo_isWay (d + 1) v σ n = some (mx_b (decide (v = 1 ∨ v = 2 ∨ (4 ≤ v ∧ v ≤ 6) ∨ (8 ≤ v ∧ v ≤ 11))), σ, n) := by
  rw [mo_isWay_e, mo_isWay_21_e]
  (repeat' split) <;> first | (rw [decide_eq_true (by omega)]; rfl) | (rw [decide_eq_false (by omega)]; rfl)
theorem mx_allow_bit : ∀ k : Nat, k < 12 → (am_and (am_shr 3958 (k : Int)) 1 = 1 ↔ (k = 1 ∨ k = 2 ∨ (4 ≤ k ∧ k ≤ 6) ∨ (8 ≤ k ∧ k ≤ 11))) := by decide +kernel
theorem pm_isAllowable_s (d : Nat) (v : Int) (σ : am_M) (n : Nat) : pm_isAllowable (d + 1) v σ n = some (mx_b (decide (v = 1 ∨ v = 2 ∨ (4 ≤ v ∧ v ≤ 6) ∨ (8 ≤ v ∧ v ≤ 11))), σ, n) := by
  rw [pm_isAllowable_e]
  by_cases h0 : v < 0
  · rw [if_pos h0, decide_eq_false (by omega)]; rfl
  rw [if_neg h0]
  by_cases h1 : v < 12
  · rw [if_pos h1]
    have := mx_allow_bit v.toNat (by omega)
    rw [Int.toNat_of_nonneg (by omega)] at this
    by_cases h2 : am_and (am_shr 3958 v) 1 = 1
    · rw [if_pos h2, decide_eq_true (by have := this.mp h2; omega)]; rfl
    · rw [if_neg h2, decide_eq_false (fun q => h2 (this.mpr (by omega)))]; rfl
  · rw [if_neg h1, decide_eq_false (by omega)]; rfl
/-! columns -/
def mx_hc (a c : Int) : Bool := decide (0 ≤ c ∧ c < 4 ∧ am_and (am_shr a c) 1 = 1)
theorem pm_hasColumn_s (d : Nat) (a c : Int) (σ : am_M) (n : Nat) : pm_hasColumn (d + 2) a c σ n = some (mx_b (mx_hc a c), σ, n) := by
  rw [pm_hasColumn_e]
  simp only [pm_isColumn_s, Option.bind_some, mx_b_0, decide_eq_false_iff_not]
  unfold mx_hc
  by_cases h : am_and (am_shr a c) 1 = 1
  · simp only [h, and_true, if_true]
    (repeat' split) <;> first | (rw [decide_eq_true (by omega)]; rfl) | (rw [decide_eq_false (by omega)]; rfl)
  · simp only [h, and_false, if_false]
    (repeat' split) <;> rfl
theorem mo_isColumn_s (d : Nat) (a c : Int) (σ : am_M) (n : Nat) : mo_isColumn (d + 1) a c σ n = some (mx_b (mx_hc a c), σ, n) := by
  rw [mo_isColumn_e]
  unfold mx_hc
  by_cases h : am_and (am_shr a c) 1 = 1
  · simp only [h, and_true, if_true]
    (repeat' split) <;> first | (rw [decide_eq_true (by omega)]; rfl) | (rw [decide_eq_false (by omega)]; rfl)
  · simp only [h, and_false, if_false]
    (repeat' split) <;> rfl
def mx_ft (k o a b : Int) : Bool := if k = 1 then true else if k = 3 then mx_hc a (am_w (Int.tdiv o 2)) else if k = 4 then mx_hc a o else mx_hc a o && mx_hc b o
theorem pm_fitsColumns_s (d : Nat) (k o a b : Int) (σ : am_M) (n : Nat) : pm_fitsColumns (d + 3) k o a b σ n = some (mx_b (mx_ft k o a b), σ, n) := by
  rw [pm_fitsColumns_e]
  simp only [pm_hasColumn_s, Option.bind_some]
  simp only [mx_if_t mx_b_01]
  simp only [mx_b_0]
  unfold mx_ft
  by_cases h1 : k = 1
  · rw [if_pos h1, if_pos h1]; rfl
  rw [if_neg h1, if_neg h1]
  by_cases h3 : k = 3
  · rw [if_pos h3, if_neg (by omega), if_pos h3]
  rw [if_neg h3, if_neg h3]
  by_cases h4 : k = 4
  · rw [if_pos h4, if_neg (by omega), if_pos h4]
  rw [if_neg h4, if_neg h4]
  cases mx_hc a o <;> cases mx_hc b o <;> simp [mx_b]
def mx_cb (k o a b : Int) : Int := if k = 4 then (if 0 ≤ o ∧ o < 4 then am_shl 1 o else 0) else if k = 5 then am_or a b else a
theorem pm_columnsBy_s (d : Nat) (k o a b : Int) (σ : am_M) (n : Nat) : pm_columnsBy (d + 2) k o a b σ n = some (mx_cb k o a b, σ, n) := by
  rw [pm_columnsBy_e]
  simp only [pm_isColumn_s, Option.bind_some, mx_b_0, decide_eq_false_iff_not]
  unfold mx_cb
  by_cases h4 : k = 4
  · rw [if_pos h4, if_pos h4]
    by_cases ho : 0 ≤ o ∧ o < 4
    · rw [if_neg (not_not_intro ho), if_pos ho]
    · rw [if_pos ho, if_neg ho]
  · rw [if_neg h4, if_neg h4]
    by_cases h5 : k = 5
    · rw [if_pos h5, if_pos h5]
    · rw [if_neg h5, if_neg h5]
theorem pm_demandOf_s (d : Nat) (g o p : Int) (σ : am_M) (n : Nat) (h : 0 ≤ g ∧ g < 1000) (ho : -1 ≤ o ∧ o ≤ 3) (hp : -1 ≤ p ∧ p ≤ 4) : pm_demandOf (d + 1) g o p σ n = some (g * 30 + (o + 1) * 6 + p + 1, σ, n) := by
  rw [pm_demandOf_e]
  simp (disch := omega) only [mx_w_id]
theorem mo_demand_s (d : Nat) (g o p : Int) (σ : am_M) (n : Nat) (h : 0 ≤ g ∧ g < 1000) (ho : -1 ≤ o ∧ o ≤ 3) (hp : -1 ≤ p ∧ p ≤ 4) : mo_demand (d + 1) g o p σ n = some (g * 30 + (o + 1) * 6 + p + 1, σ, n) := by
  rw [mo_demand_e]
  simp (disch := omega) only [mx_w_id]
/-! refusals -/
def mx_rf (σ : am_M) (k : Nat) : am_M := am_wr σ 57 k (am_w (σ 57 k + 1))
theorem pm_refuse_s (d : Nat) (v : Int) (σ : am_M) (n : Nat) (h : 1 ≤ v ∧ v ≤ 7) : pm_refuse (d + 1) v σ n = some (-v, mx_rf σ v.toNat, n) := by
  rw [pm_refuse_e, if_neg (by omega), if_neg (by omega)]
  simp (disch := omega) only [am_m, ix_57, mx_w_id (z := -v)]
  rfl
theorem pm_refuseFar_s (d : Nat) (v : Int) (σ : am_M) (n : Nat) (h : 1 ≤ v ∧ v ≤ 7) : pm_refuseFar (d + 2) v σ n = some (-v - 10, mx_rf σ v.toNat, n) := by
  rw [pm_refuseFar_e, pm_refuse_s _ _ _ _ h]
  simp (disch := omega) only [Option.bind_some, mx_w_id]
def mx_no (σ : am_M) (k : Nat) : am_M := am_wr σ 83 k (am_w (σ 83 k + 1))
theorem mo_no_s (d : Nat) (v : Int) (σ : am_M) (n : Nat) (h : -7 ≤ v ∧ v ≤ -1) : mo_no (d + 1) v σ n = some (v, mx_no σ (-v).toNat, n) := by
  rw [mo_no_e]
  simp (disch := omega) only [am_m, mx_w_id (z := -v), ix_83]
  rfl
theorem mo_noTen_s (d : Nat) (v : Int) (σ : am_M) (n : Nat) (h : -7 ≤ v ∧ v ≤ -1) : mo_noTen (d + 1) v σ n = some (v - 10, mx_no σ (-v).toNat, n) := by
  rw [mo_noTen_e]
  simp (disch := omega) only [am_m, mx_w_id (z := -v), mx_w_id (z := v - 10), ix_83]
  rfl
/-! the memo's small readings -/
theorem me_columnsOf_s (d : Nat) (g : Int) (σ : am_M) (n : Nat) (h : σ 2 9 ≤ 64) : me_columnsOf (d + 2) g σ n = some (if 0 ≤ g ∧ g < σ 2 9 then σ 11 g.toNat else 0, σ, n) := by
  rw [me_columnsOf_e]
  simp only [me_isGroup_s, Option.bind_some, mx_b_0, decide_eq_false_iff_not]
  by_cases hg : 0 ≤ g ∧ g < σ 2 9
  · rw [if_neg (not_not_intro hg), if_pos hg, ix_11 (by omega) (by omega)]
  · rw [if_pos hg, if_neg hg]
theorem me_root_s (d : Nat) (g : Int) (σ : am_M) (n : Nat) (h : σ 2 9 ≤ 64) : me_root (d + 2) g σ n = some (if 0 ≤ g ∧ g < σ 2 9 then σ 10 g.toNat else -1, σ, n) := by
  rw [me_root_e]
  simp only [me_isGroup_s, Option.bind_some, mx_b_0, decide_eq_false_iff_not]
  by_cases hg : 0 ≤ g ∧ g < σ 2 9
  · rw [if_neg (not_not_intro hg), if_pos hg, ix_10 (by omega) (by omega)]
  · rw [if_pos hg, if_neg hg]
theorem me_isGone_s (d : Nat) (e : Int) (σ : am_M) (n : Nat) (h : 0 ≤ e ∧ e < 64) : me_isGone (d + 1) e σ n = some (mx_b (decide (σ 9 e.toNat = -1)), σ, n) := by
  rw [me_isGone_e, ix_9 (by omega) (by omega)]
  split <;> rename_i q
  · rw [decide_eq_true q]; rfl
  · rw [decide_eq_false q]; rfl
theorem me_factOfTable_s (d : Nat) (t w : Int) (σ : am_M) (n : Nat) (h : σ 2 0 ≤ 8) : me_factOfTable (d + 2) t w σ n = some (if (0 ≤ t ∧ t < σ 2 0) ∧ 0 ≤ w ∧ w < 4 then σ 3 (4 * t + w).toNat else 0, σ, n) := by
  rw [me_factOfTable_e]
  simp only [me_isTable_s, Option.bind_some, mx_b_0, decide_eq_false_iff_not]
  by_cases hg : 0 ≤ t ∧ t < σ 2 0
  · rw [if_neg (not_not_intro hg)]
    by_cases h0 : w < 0
    · rw [if_pos h0, if_neg (by omega)]
    rw [if_neg h0]
    by_cases h4 : w < 4
    · rw [if_pos h4, if_pos (by omega), mx_w_id (z := t * 4) (by omega) (by omega), mx_w_id (by omega) (by omega), ix_3 (by omega) (by omega), show t * 4 + w = 4 * t + w by omega]
    · rw [if_neg h4, if_neg (by omega)]
  · rw [if_pos hg, if_neg (by omega)]
theorem me_mayBe_s (d : Nat) (k o x y : Int) (σ : am_M) (n : Nat) (h : σ 2 9 ≤ 64) : me_mayBe (d + 4) k o x y σ n = some (mx_b (mx_ft k o (if 0 ≤ x ∧ x < σ 2 9 then σ 11 x.toNat else 0) (if 0 ≤ y ∧ y < σ 2 9 then σ 11 y.toNat else 0)), σ, n) := by
  rw [me_mayBe_e]
  simp (disch := assumption) only [me_columnsOf_s, Option.bind_some, pm_fitsColumns_s, mx_if_t mx_b_01]
/-! who is alike -/
def mx_al (K P X Y H : Nat → Int) (k o x y : Int) (e : Nat) : Bool := decide (K e = k ∧ P e = o ∧ X e = x ∧ Y e = y ∧ H e ≠ -1)
theorem me_alike_3_s (d : Nat) (k o x y : Int) (σ : am_M) (n : Nat) (h : σ 2 3 ≤ 64) : ∀ (t e : Nat), (e : Int) + t = σ 2 3 → me_alike_3 (d + 1) k o x y e σ n = some (mx_fi (mx_al (σ 5) (σ 6) (σ 7) (σ 8) (σ 9) k o x y) t e, σ, n) := by
  intro t
  induction t with
  | zero => intro e he; rw [me_alike_3_e, if_neg (by omega)]; rfl
  | succ t ih =>
    intro e he
    have ih' := ih (e + 1) (by omega)
    rw [Int.natCast_add, Int.natCast_one] at ih'
    rw [me_alike_3_e, if_pos (by omega)]
    simp (disch := omega) only [ix_5, ix_6, ix_7, ix_8, Int.toNat_natCast, mx_w_id, me_isGone_s, Option.bind_some, mx_b_0, decide_eq_false_iff_not, ih']
    rw [mx_fi_S]
    have hf : ¬ (σ 5 e = k ∧ σ 6 e = o ∧ σ 7 e = x ∧ σ 8 e = y ∧ σ 9 e ≠ -1) → mx_al (σ 5) (σ 6) (σ 7) (σ 8) (σ 9) k o x y e = false := fun q => decide_eq_false q
    by_cases h1 : σ 5 e = k
    · rw [if_pos h1]
      by_cases h2 : σ 6 e = o
      · rw [if_pos h2]
        by_cases h3 : σ 7 e = x
        · rw [if_pos h3]
          by_cases h4 : σ 8 e = y
          · rw [if_pos h4]
            by_cases h5 : σ 9 e = -1
            · rw [if_neg (not_not_intro h5), hf fun q => q.2.2.2.2 h5]; rfl
            · rw [if_pos h5, show mx_al (σ 5) (σ 6) (σ 7) (σ 8) (σ 9) k o x y e = true from decide_eq_true ⟨h1, h2, h3, h4, h5⟩]; rfl
          · rw [if_neg h4, hf fun q => h4 q.2.2.2.1]; rfl
        · rw [if_neg h3, hf fun q => h3 q.2.2.1]; rfl
      · rw [if_neg h2, hf fun q => h2 q.2.1]; rfl
    · rw [if_neg h1, hf fun q => h1 q.1]; rfl
theorem me_alike_s (d : Nat) (k o x y : Int) (σ : am_M) (n : Nat) (h0 : 0 ≤ σ 2 3) (h : σ 2 3 ≤ 64) : me_alike (d + 2) k o x y σ n = some (mx_fi (mx_al (σ 5) (σ 6) (σ 7) (σ 8) (σ 9) k o x y) (σ 2 3).toNat 0, σ, n) := by
  rw [me_alike_e]
  exact me_alike_3_s d k o x y σ n h (σ 2 3).toNat 0 (by omega)
