/-! the class: two groups told to be the same -/
def mx_ct (p : Nat → Bool) : Nat → Nat
  | 0 => 0
  | n + 1 => mx_ct p n + (bif p n then 1 else 0)
theorem mx_ct_le (p : Nat → Bool) : ∀ n, mx_ct p n ≤ n := by
  intro n
  induction n with
  | zero => exact Nat.le_refl _
  | succ n ih =>
    show mx_ct p n + (bif p n then 1 else 0) ≤ n + 1
    cases p n <;> simp <;> omega
theorem mx_ct_mono {p q : Nat → Bool} : ∀ {n : Nat}, (∀ j, j < n → q j = true → p j = true) → mx_ct q n ≤ mx_ct p n := by
  intro n
  induction n with
  | zero => intro _; exact Nat.le_refl _
  | succ n ih =>
    intro h
    have h1 := ih fun j hj => h j (by omega)
    have h2 := h n (by omega)
    show mx_ct q n + (bif q n then 1 else 0) ≤ mx_ct p n + (bif p n then 1 else 0)
    cases hq : q n
    · cases p n <;> simp <;> omega
    · rw [h2 hq]; simp; omega
theorem mx_ct_lt {p q : Nat → Bool} {e : Nat} : ∀ {n : Nat}, (∀ j, j < n → q j = true → p j = true) → e < n → p e = true → q e = false → mx_ct q n < mx_ct p n := by
  intro n
  induction n with
  | zero => intro _ h; omega
  | succ n ih =>
    intro h he hp hq
    show mx_ct q n + (bif q n then 1 else 0) < mx_ct p n + (bif p n then 1 else 0)
    by_cases r : e = n
    · subst r
      have := mx_ct_mono (p := p) (q := q) (n := e) fun j hj => h j (by omega)
      rw [hp, hq]; simp; omega
    · have h1 := ih (fun j hj => h j (by omega)) (by omega) hp hq
      have h2 := h n (by omega)
      cases hq : q n
      · cases p n <;> simp <;> omega
      · rw [h2 hq]; simp; omega
theorem mx_ct_zero {p : Nat → Bool} : ∀ {n : Nat}, mx_ct p n = 0 → ∀ j, j < n → p j = false := by
  intro n
  induction n with
  | zero => intro _ j hj; omega
  | succ n ih =>
    intro h j hj
    have h : mx_ct p n + (bif p n then 1 else 0) = 0 := h
    by_cases r : j = n
    · subst r
      cases hp : p j
      · rfl
      · rw [hp] at h; simp at h
    · exact ih (by omega) j (by omega)
theorem mx_ct_cong {p q : Nat → Bool} {n : Nat} (h : ∀ j, j < n → p j = q j) : mx_ct p n = mx_ct q n :=
  Nat.le_antisymm (mx_ct_mono fun j hj hp => by rw [← h j hj]; exact hp) (mx_ct_mono fun j hj hp => by rw [h j hj]; exact hp)
/-- a stage of the class's merging, from σ on -/
def mx_un (σ τ : am_M) (a b : Int) (U : Nat → Int) : Prop :=
  mx_Fr [7, 8, 9, 10, 12] σ τ ∧ (∀ i : Nat, (i : Int) < σ 2 9 → τ 10 i = U i) ∧ mx_J (σ 2 3) (σ 2 9) (σ 5) (σ 6) (σ 7) (σ 8) (σ 9) (σ 10) a b U ∧ U a.toNat = U b.toNat ∧ mx_G (σ 2 3) (σ 5) (σ 6) (σ 7) (σ 8) (σ 9) U (fun e => τ 9 e = -1) ∧
  (∀ e : Nat, (e : Int) < σ 2 3 → τ 9 e ≠ -1 → σ 9 e ≠ -1 ∧ τ 7 e = mx_q U (σ 7 e) ∧ τ 8 e = mx_q U (σ 8 e) ∧ τ 9 e = mx_q U (σ 9 e)) ∧ (∀ e : Nat, (e : Int) < σ 2 3 → τ 9 e = -1 → τ 7 e = -1 ∧ τ 8 e = -1) ∧ mx_Mb (σ 2 3) (σ 2 9) (τ 9) (τ 12)
theorem mx_Mb_ml {m g : Int} {H M : Nat → Int} (h : mx_Mb m g H M) (hg : g ≤ 64) {a b : Int} (ha : 0 ≤ a ∧ a < g) (hb : 0 ≤ b ∧ b < g) : mx_Mb m g (mx_rw (am_mn a b) (am_mx a b) 0 m H) (mx_ml a b M) := by
  by_cases hab : a = b
  · subst hab
    have e1 : am_mn a a = a := by unfold am_mn; split <;> rfl
    have e2 : am_mx a a = a := by unfold am_mx; split <;> rfl
    unfold mx_ml
    rw [e1, e2, mx_rw_same, if_pos rfl]
    exact h
  · have hlt := mx_mnx hab
    have hor := mx_mn_or a b
    unfold mx_ml
    rw [if_neg hab]
    generalize am_mn a b = lo at *
    generalize am_mx a b = hi at *
    intro i hi' e he
    have h1 := h i hi' e he
    by_cases q1 : i = hi.toNat
    · rw [q1, mx_up_at, mx_bt_0]
      constructor
      · intro q; cases q
      · intro q
        rw [mx_rw_in q.1] at q
        have q := q.2
        unfold mx_rn at q
        split at q <;> omega
    · rw [mx_up_ne q1]
      by_cases q2 : i = lo.toNat
      · rw [q2, mx_up_at, mx_bt_or, Bool.or_eq_true, h lo.toNat (by omega) e he, h hi.toNat (by omega) e he]
        constructor
        · rintro (⟨r1, r2⟩ | ⟨r1, r2⟩)
          · refine ⟨r1, ?_⟩
            rw [mx_rw_in r1, mx_rn_ne (by omega)]
            omega
          · refine ⟨r1, ?_⟩
            rw [mx_rw_in r1, r2, Int.toNat_of_nonneg (by omega), mx_rn_hi]
            omega
        · rintro ⟨r1, r2⟩
          rw [mx_rw_in r1] at r2
          unfold mx_rn at r2
          split at r2
          · right; exact ⟨r1, by omega⟩
          · left; exact ⟨r1, by omega⟩
      · rw [mx_up_ne q2, h1]
        constructor
        · rintro ⟨r1, r2⟩
          refine ⟨r1, ?_⟩
          rw [mx_rw_in r1, mx_rn_ne (by omega)]
          exact r2
        · rintro ⟨r1, r2⟩
          rw [mx_rw_in r1] at r2
          unfold mx_rn at r2
          split at r2
          · omega
          · exact ⟨r1, r2⟩
theorem mx_Mb_out {m g : Int} {H M : Nat → Int} (h : mx_Mb m g H M) (hg : g ≤ 64) {e : Nat} (he : (e : Int) < m) (hm : m ≤ 64) (hH : 0 ≤ H e ∧ H e < g) : mx_Mb m g (mx_up H e (-1)) (mx_up M (H e).toNat (am_land (M (H e).toNat) (am_lxor (am_lshl 1 e) (-1)))) := by
  intro i hi j hj
  have h1 := h i hi j hj
  by_cases q1 : i = (H e).toNat
  · rw [q1, mx_up_at, mx_bt_and, mx_bt_not _ _ hj, mx_bt_1 _ (by omega) (by omega) _ hj, Bool.and_eq_true, h _ (by omega) j hj, Int.toNat_natCast]
    by_cases q2 : j = e
    · subst q2
      rw [mx_up_at]
      simp
      omega
    · rw [mx_up_ne q2]
      simp [q2]
  · rw [mx_up_ne q1, h1]
    by_cases q2 : j = e
    · subst q2
      rw [mx_up_at]
      omega
    · rw [mx_up_ne q2]
