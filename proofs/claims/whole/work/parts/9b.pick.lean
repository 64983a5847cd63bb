section
variable {n : Nat} {σ μ : am_M} {al : Int} {c : Nat → Int}
theorem mx_find_eq {p q : mx_wt → Bool} : ∀ R : List mx_wt, (∀ w ∈ R, p w = q w) → R.find? p = R.find? q := by
  intro R
  induction R with
  | nil => intro _; rfl
  | cons w R ih =>
    intro h
    rw [List.find?_cons, List.find?_cons, h w List.mem_cons_self, ih (fun x hx => h x (List.mem_cons_of_mem _ hx))]
/-- the reference picks the same way -/
theorem mx_pick_eq {f f' : Nat → Int} (hI : mx_cI μ al f') (R : List mx_wt) {d : Nat} {v : Int} (hf : f d = v) (hf' : f' d = v) (hv : v ≤ 1000000000000) (h : ∀ w ∈ R, mx_wok μ w ∧ mx_in f w.2.2.1 = mx_in (mx_cap f') w.2.2.1 ∧ mx_in f w.2.2.2.1 = mx_in (mx_cap f') w.2.2.2.1) :
    R.find? (fun w => decide (mx_s1 f' w = f' d)) = R.find? (fun w => decide (mx_cw1 f w = f d)) := by
  refine mx_find_eq R fun w hw => ?_
  obtain ⟨ok, e1, e2⟩ := h w hw
  have r := mx_w_r2 (al := al) ok hI e1 e2
  rw [hf, hf']
  rcases r with q | ⟨q1, q2⟩
  · rw [q]
  · rw [decide_eq_false (by omega), decide_eq_false (by omega)]
/-- ways that cost something else are passed over -/
theorem mo_plans_33_s (dp D : Nat) (v2 : Int) (hD : D < 1920) (W : List mx_wt) (hL : W.length ≤ 386) (hW : mx_LW σ W) (hok : ∀ w ∈ W, mx_wok μ w) (hI : mx_cI μ al (σ 107)) {w : mx_wt} : ∀ (R A : List mx_wt), W = A ++ R → R.find? (fun w => decide (mx_s1 (σ 107) w = σ 107 D)) = some w →
    ∃ j : Nat, W[j]? = some w ∧ mo_plans_33 (dp + 1) D v2 A.length σ n = mo_plans_33 (dp + 1) D v2 j σ n ∧ mx_s1 (σ 107) w = σ 107 D := by
  have Db : (0 : Int) ≤ (D : Int) ∧ (D : Int) < 1920 := ⟨by omega, by omega⟩
  intro R
  induction R with
  | nil => intro A hA hx; cases hx
  | cons v R ih =>
    intro A hA hx
    have l : W.length = A.length + (R.length + 1) := by rw [hA, List.length_append, List.length_cons]
    have a1k : (A.length : Int) < 1000 := by omega
    have hw : W[A.length]? = some v := by rw [hA, List.getElem?_append_right (Nat.le_refl _), Nat.sub_self]; rfl
    have ok := hok v (by rw [hA]; exact List.mem_append_right _ List.mem_cons_self)
    rw [List.find?_cons] at hx
    by_cases z : mx_s1 (σ 107) v = σ 107 D
    · rw [decide_eq_true z] at hx
      cases hx
      exact ⟨A.length, hw, rfl, z⟩
    · rw [decide_eq_false z] at hx
      obtain ⟨j, j1, j2, j3⟩ := ih (A ++ [v]) (by rw [hA, List.append_assoc]; rfl) hx
      refine ⟨j, j1, ?_, j3⟩
      rw [List.length_append, List.length_singleton] at j2
      rw [mo_plans_33_e, mo_sum_s dp A.length σ W v hW hL hw ok hI, Option.bind_some, ix_107 Db.1 Db.2, mx_w_nat a1k]
      dsimp only
      rw [Int.toNat_natCast, if_neg (fun a => z (mx_cmpE.mp a))]
      exact j2
end
