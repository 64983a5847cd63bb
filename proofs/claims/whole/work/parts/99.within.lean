section
variable {t n : Nat} {σ : am_M} {al : Int} {D : Nat} {c : Nat → Int}
theorem mx_cz_rm (Q : Nat → Bool) (y : Nat) : ∀ X, mx_cz Q X ≤ mx_cz (fun x => Q x && !decide (x = y)) X + if y < X then 1 else 0 := by
  intro X
  induction X with
  | zero => exact Nat.zero_le _
  | succ X ih =>
    show mx_cz Q X + (if Q X = true then 1 else 0) ≤ mx_cz (fun x => Q x && !decide (x = y)) X + (if (Q X && !decide (X = y)) = true then 1 else 0) + _
    by_cases z : X = y
    · subst z
      rw [if_neg (Nat.lt_irrefl X)] at ih
      rw [if_pos (Nat.lt_succ_self X)]
      split <;> omega
    · rw [decide_eq_false z, Bool.not_false, Bool.and_true]
      by_cases w : y < X
      · rw [if_pos w] at ih
        rw [if_pos (show y < X + 1 by omega)]
        omega
      · rw [if_neg w] at ih
        rw [if_neg (show ¬ y < X + 1 by omega)]
        omega
theorem mx_cz_sur (L : Nat → Nat) (P : Nat → Bool) (X : Nat) : ∀ (N : Nat) (Q : Nat → Bool), (∀ x, x < X → Q x = true → ∃ k, k < N ∧ P k = true ∧ L k = x) → mx_cz Q X ≤ mx_cz P N := by
  intro N
  induction N with
  | zero =>
    intro Q h
    rw [mx_cz_f X (fun x hx => by
      cases q : Q x with
      | false => rfl
      | true => obtain ⟨k, k1, -⟩ := h x hx q; exact absurd k1 (Nat.not_lt_zero _))]
    exact Nat.zero_le _
  | succ N ih =>
    intro Q h
    show mx_cz Q X ≤ mx_cz P N + (if P N = true then 1 else 0)
    by_cases p : P N = true
    · rw [if_pos p]
      have a := mx_cz_rm Q (L N) X
      have b := ih (fun x => Q x && !decide (x = L N)) (fun x hx q => by
        rw [Bool.and_eq_true] at q
        obtain ⟨k, k1, k2, k3⟩ := h x hx q.1
        refine ⟨k, ?_, k2, k3⟩
        by_cases z : k = N
        · subst z
          rw [decide_eq_true k3.symm] at q
          exact absurd q.2 (by decide)
        · omega)
      split at a <;> omega
    · rw [if_neg p]
      exact ih Q (fun x hx q => by
        obtain ⟨k, k1, k2, k3⟩ := h x hx q
        refine ⟨k, ?_, k2, k3⟩
        by_cases z : k = N
        · subst z; exact absurd k2 p
        · omega)
theorem mx_cz_not (Q R : Nat → Bool) : ∀ X, mx_cz (fun x => Q x && R x) X + mx_cz (fun x => Q x && !R x) X = mx_cz Q X := by
  intro X
  induction X with
  | zero => rfl
  | succ X ih =>
    show mx_cz (fun x => Q x && R x) X + (if (Q X && R X) = true then 1 else 0) + (mx_cz (fun x => Q x && !R x) X + (if (Q X && !R X) = true then 1 else 0)) = mx_cz Q X + (if Q X = true then 1 else 0)
    have e : (if (Q X && R X) = true then 1 else 0) + (if (Q X && !R X) = true then 1 else 0) = (if Q X = true then 1 else 0 : Nat) := by
      cases Q X <;> cases R X <;> rfl
    omega
/-- a list without gaps counts as its set does -/
theorem mx_cz_list (L : Nat → Nat) (Q R : Nat → Bool) (N : Nat) (hN : N = mx_cz Q 1920) (h : ∀ x, x < 1920 → Q x = true → ∃ k, k < N ∧ L k = x) : mx_cz (fun k => R (L k)) N = mx_cz (fun x => Q x && R x) 1920 := by
  have s1 := mx_cz_sur L (fun k => R (L k)) 1920 N (fun x => Q x && R x) (fun x hx q => by
    rw [Bool.and_eq_true] at q
    obtain ⟨k, k1, k2⟩ := h x hx q.1
    exact ⟨k, k1, by rw [k2]; exact q.2, k2⟩)
  have s2 := mx_cz_sur L (fun k => !R (L k)) 1920 N (fun x => Q x && !R x) (fun x hx q => by
    rw [Bool.and_eq_true] at q
    obtain ⟨k, k1, k2⟩ := h x hx q.1
    exact ⟨k, k1, by rw [k2]; exact q.2, k2⟩)
  have a := mx_cz_not Q R 1920
  have b := mx_cz_not (fun _ => true) (fun k => R (L k)) N
  rw [mx_cz_all] at b
  simp only [Bool.true_and] at b
  omega
theorem co_demandedWithin_13_s (d N : Nat) (hN : N ≤ 1920) (v : Int) (h : ∀ k, k < N → ∃ x : Nat, σ 35 k = x ∧ x < 1920) : ∀ (k i : Nat), i + k = N → co_demandedWithin_13 d v N ((mx_cz (fun k => decide (σ 34 (σ 35 k).toNat ≤ v)) i : Nat) : Int) i σ n = some (((mx_cz (fun k => decide (σ 34 (σ 35 k).toNat ≤ v)) N : Nat) : Int), σ, n) := by
  intro k
  induction k with
  | zero =>
    intro i hi
    have e : i = N := by omega
    subst e
    rw [co_demandedWithin_13_e, if_neg (by omega)]
  | succ k ih =>
    intro i hi
    obtain ⟨x, x1, x2⟩ := h i (by omega)
    have I : (0 : Int) ≤ (i : Int) ∧ (i : Int) < 1920 := ⟨by omega, by omega⟩
    have X : (0 : Int) ≤ (x : Int) ∧ (x : Int) < 1920 := ⟨by omega, by omega⟩
    have lt : (i : Int) < (N : Int) := by omega
    have cb := mx_cz_b (fun k => decide (σ 34 (σ 35 k).toNat ≤ v)) i
    have w1 : am_w ((i : Int) + 1) = ((i + 1 : Nat) : Int) := by rw [mx_w_id (by omega) (by omega)]; rfl
    have w2 : am_w (((mx_cz (fun k => decide (σ 34 (σ 35 k).toNat ≤ v)) i : Nat) : Int) + 1) = ((mx_cz (fun k => decide (σ 34 (σ 35 k).toNat ≤ v)) i + 1 : Nat) : Int) := by rw [mx_w_id (by clear w1; omega) (by clear w1; omega)]; rfl
    have S : mx_cz (fun k => decide (σ 34 (σ 35 k).toNat ≤ v)) (i + 1) = mx_cz (fun k => decide (σ 34 (σ 35 k).toNat ≤ v)) i + if decide (σ 34 (σ 35 i).toNat ≤ v) = true then 1 else 0 := rfl
    have r := ih (i + 1) (by clear w1 w2; omega)
    rw [S, x1, Int.toNat_natCast] at r
    rw [co_demandedWithin_13_e, if_pos lt, ix_35 I.1 I.2, Int.toNat_natCast, x1, ix_34 X.1 X.2, Int.toNat_natCast, w1, w2]
    clear w1 w2
    by_cases z : v < σ 34 x
    · rw [if_pos (mx_cmpG.mpr z)]
      rw [decide_eq_false (by omega), if_neg (by decide), Nat.add_zero] at r
      exact r
    · rw [if_neg (fun a => z (mx_cmpG.mp a))]
      rw [decide_eq_true (by omega), if_pos rfl] at r
      exact r
theorem mo_within_59_s (d : Nat) (v : Int) (hD : D < 1920) (hv : σ 107 D = v) (hl : v ≤ 1000000000000) (h : ∀ x : Nat, x < 1920 → σ 138 x = 0 ∨ σ 138 x = 1) : ∀ (k i : Nat), i + k = 1920 → mo_within_59 d D ((mx_cz (fun x => mx_on (σ 138) x && decide (σ 107 x ≤ v)) i : Nat) : Int) i σ n = some (((mx_cz (fun x => mx_on (σ 138) x && decide (σ 107 x ≤ v)) 1920 : Nat) : Int), σ, n) := by
  intro k
  induction k with
  | zero =>
    intro i hi
    have e : i = 1920 := by omega
    subst e
    rw [mo_within_59_e, if_neg (by decide)]
  | succ k ih =>
    intro i hi
    have I : (0 : Int) ≤ (i : Int) ∧ (i : Int) < 1920 := ⟨by omega, by omega⟩
    have J : (0 : Int) ≤ (D : Int) ∧ (D : Int) < 1920 := ⟨by omega, by omega⟩
    have cb := mx_cz_b (fun x => mx_on (σ 138) x && decide (σ 107 x ≤ v)) i
    have w1 : am_w ((i : Int) + 1) = ((i + 1 : Nat) : Int) := by rw [mx_w_id (by omega) (by omega)]; rfl
    have w2 : am_w (((mx_cz (fun x => mx_on (σ 138) x && decide (σ 107 x ≤ v)) i : Nat) : Int) + 1) = ((mx_cz (fun x => mx_on (σ 138) x && decide (σ 107 x ≤ v)) i + 1 : Nat) : Int) := by rw [mx_w_id (by clear w1; omega) (by clear w1; omega)]; rfl
    have w3 : am_w (((mx_cz (fun x => mx_on (σ 138) x && decide (σ 107 x ≤ v)) i : Nat) : Int) + 0) = ((mx_cz (fun x => mx_on (σ 138) x && decide (σ 107 x ≤ v)) i : Nat) : Int) := by rw [Int.add_zero, mx_w_id (by clear w1 w2; omega) (by clear w1 w2; omega)]
    have S : mx_cz (fun x => mx_on (σ 138) x && decide (σ 107 x ≤ v)) (i + 1) = mx_cz (fun x => mx_on (σ 138) x && decide (σ 107 x ≤ v)) i + if (mx_on (σ 138) i && decide (σ 107 i ≤ v)) = true then 1 else 0 := rfl
    have r := ih (i + 1) (by clear w1 w2 w3; omega)
    rw [S] at r
    rw [mo_within_59_e, if_pos I.2, ix_107 J.1 J.2, ix_138 I.1 I.2, ix_107 I.1 I.2, ix_107 J.1 J.2, Int.toNat_natCast, Int.toNat_natCast, hv, if_neg (fun a => by have := mx_cmpG.mp a; omega), w1, w2, w3]
    clear w1 w2 w3
    rcases h i (by omega) with z | z
    · have f : mx_on (σ 138) i = false := decide_eq_false (by omega)
      rw [f, Bool.false_and, if_neg (by decide), Nat.add_zero] at r
      rw [if_pos z]
      exact r
    · have f : mx_on (σ 138) i = true := decide_eq_true z
      rw [f, Bool.true_and] at r
      rw [if_neg (by omega)]
      by_cases y : v < σ 107 i
      · rw [if_pos (mx_cmpG.mpr y)]
        rw [decide_eq_false (by omega), if_neg (by decide), Nat.add_zero] at r
        exact r
      · rw [if_neg (fun a => y (mx_cmpG.mp a))]
        rw [decide_eq_true (by omega), if_pos rfl] at r
        exact r
end
