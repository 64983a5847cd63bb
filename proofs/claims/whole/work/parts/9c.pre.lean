/-! PLANS: nodes in the order in which they are written -/
section
variable {σ : am_M} {al : Int} {c : Nat → Int}
def mx_pick1 (σ : am_M) (al : Int) (c : Nat → Int) (d : Nat) : Option mx_wt := (mx_wl σ al d).find? (fun w => decide (am_mn (mx_sum c w) 1000000000001 = c d))
def mx_pre (σ : am_M) (al : Int) (c : Nat → Int) : Nat → Nat → List (Nat × mx_wt)
  | 0, _ => []
  | k + 1, d => match mx_pick1 σ al c d with
    | none => []
    | some w => (d, w) :: ((if w.2.2.1 = -1 then [] else mx_pre σ al c k w.2.2.1.toNat) ++ (if w.2.2.2.1 = -1 then [] else mx_pre σ al c k w.2.2.2.1.toNat))
/-- what is picked: it costs what the demand costs, its inputs cost less -/
theorem mx_pick1_s (hg : mx_gd σ) (hs : mx_sol σ al c) {d : Nat} (hd : mx_dd σ d) (hc : c d ≤ 1000000000000) : ∃ w, mx_pick1 σ al c d = some w ∧ w ∈ mx_wl σ al d ∧ mx_wok σ w ∧ mx_sum c w = c d ∧
    (∀ v, (v = w.2.2.1 ∨ v = w.2.2.2.1) → v ≠ -1 → ∃ j : Nat, v = j ∧ mx_dd σ j ∧ j < 1920 ∧ 1 ≤ c j ∧ c j < c d) := by
  have fin : ∀ w, mx_pick1 σ al c d = some w → ∃ w, mx_pick1 σ al c d = some w ∧ w ∈ mx_wl σ al d ∧ mx_wok σ w ∧ mx_sum c w = c d ∧
    (∀ v, (v = w.2.2.1 ∨ v = w.2.2.2.1) → v ≠ -1 → ∃ j : Nat, v = j ∧ mx_dd σ j ∧ j < 1920 ∧ 1 ≤ c j ∧ c j < c d) := fun w hx => by
    have v1 : w ∈ mx_wl σ al d := List.mem_of_find?_eq_some hx
    have v2 : am_mn (mx_sum c w) 1000000000001 = c d := by
      have := List.find?_some hx
      exact of_decide_eq_true this
    have ok := mx_wl_ok hg hd v1
    have sm : mx_sum c w = c d := by
      unfold am_mn at v2
      split at v2 <;> omega
    have n1 := mx_in_lt ok.1 (fun j hj => (hs j hj).1.1)
    have n2 := mx_in_lt ok.2.1 (fun j hj => (hs j hj).1.1)
    have p := ok.2.2.1
    refine ⟨w, hx, v1, ok, sm, fun v hv nv => ?_⟩
    unfold mx_sum at sm
    have lt : mx_in c v < c d := by rcases hv with q | q <;> rw [q] <;> omega
    have vk : mx_vk σ v := by rcases hv with q | q <;> rw [q]; exact ok.1; exact ok.2.1
    rcases vk with q | ⟨j, q1, q2, q3⟩
    · exact absurd q nv
    · unfold mx_in at lt
      rw [if_neg nv, q1, Int.toNat_natCast] at lt
      exact ⟨j, q1, q3, q2, (hs j q3).1.1, lt⟩
  rcases (hs d hd).2.2 with q | ⟨w, w1, w2⟩
  · omega
  · cases hx : mx_pick1 σ al c d with
    | none =>
      have := List.find?_eq_none.mp hx w w1
      refine absurd (decide_eq_true ?_) this
      rw [w2]
      unfold am_mn
      rw [if_neg (by omega)]
    | some v =>
      have := fin v hx
      rw [hx] at this
      exact this
theorem mx_pre_st (hg : mx_gd σ) (hs : mx_sol σ al c) : ∀ (k k' d : Nat), mx_dd σ d → c d ≤ 1000000000000 → c d ≤ k → c d ≤ k' → mx_pre σ al c k d = mx_pre σ al c k' d := by
  intro k
  induction k with
  | zero =>
    intro k' d hd hc h1 h2
    have := (hs d hd).1.1
    omega
  | succ k ih =>
    intro k' d hd hc h1 h2
    have c1 := (hs d hd).1.1
    cases k' with
    | zero => omega
    | succ k' =>
      obtain ⟨w, w1, w2, w3, w4, w5⟩ := mx_pick1_s hg hs hd hc
      have e : ∀ k, mx_pre σ al c (k + 1) d = (d, w) :: ((if w.2.2.1 = -1 then [] else mx_pre σ al c k w.2.2.1.toNat) ++ (if w.2.2.2.1 = -1 then [] else mx_pre σ al c k w.2.2.2.1.toNat)) := fun k => by
        show (match mx_pick1 σ al c d with
          | none => []
          | some w => (d, w) :: ((if w.2.2.1 = -1 then [] else mx_pre σ al c k w.2.2.1.toNat) ++ (if w.2.2.2.1 = -1 then [] else mx_pre σ al c k w.2.2.2.1.toNat))) = _
        rw [w1]
      have one : ∀ v, (v = w.2.2.1 ∨ v = w.2.2.2.1) → (if v = -1 then [] else mx_pre σ al c k v.toNat) = (if v = -1 then [] else mx_pre σ al c k' v.toNat) := fun v hv => by
        by_cases nv : v = -1
        · rw [if_pos nv, if_pos nv]
        · obtain ⟨j, j1, j2, j3, j4, j5⟩ := w5 v hv nv
          rw [if_neg nv, if_neg nv, j1, Int.toNat_natCast]
          exact ih k' j j2 (by omega) (by omega) (by omega)
      rw [e k, e k', one _ (Or.inl rfl), one _ (Or.inr rfl)]
/-- the nodes of a demand -/
def mx_nds (σ : am_M) (al : Int) (c : Nat → Int) (v : Int) : List (Nat × mx_wt) := if v = -1 then [] else mx_pre σ al c (c v.toNat).toNat v.toNat
theorem mx_nds_e (hg : mx_gd σ) (hs : mx_sol σ al c) {d : Nat} (hd : mx_dd σ d) (hc : c d ≤ 1000000000000) {w : mx_wt} (hw : mx_pick1 σ al c d = some w) : mx_nds σ al c d = (d, w) :: (mx_nds σ al c w.2.2.1 ++ mx_nds σ al c w.2.2.2.1) := by
  have c1 := (hs d hd).1.1
  obtain ⟨w', w1, w2, w3, w4, w5⟩ := mx_pick1_s hg hs hd hc
  rw [hw] at w1
  cases w1
  obtain ⟨k, hk⟩ : ∃ k : Nat, (c d).toNat = k + 1 := ⟨(c d).toNat - 1, by omega⟩
  have nd : ¬ ((d : Int) = -1) := by omega
  have one : ∀ v, (v = w.2.2.1 ∨ v = w.2.2.2.1) → (if v = -1 then [] else mx_pre σ al c k v.toNat) = mx_nds σ al c v := fun v hv => by
    unfold mx_nds
    by_cases nv : v = -1
    · rw [if_pos nv, if_pos nv]
    · obtain ⟨j, j1, j2, j3, j4, j5⟩ := w5 v hv nv
      rw [if_neg nv, if_neg nv, j1, Int.toNat_natCast]
      exact mx_pre_st hg hs k _ j j2 (by omega) (by omega) (by omega)
  have e : mx_nds σ al c d = mx_pre σ al c (k + 1) d := by
    unfold mx_nds
    rw [if_neg nd, Int.toNat_natCast, hk]
  rw [e, ← one _ (Or.inl rfl), ← one _ (Or.inr rfl)]
  show (match mx_pick1 σ al c d with
    | none => []
    | some w => (d, w) :: ((if w.2.2.1 = -1 then [] else mx_pre σ al c k w.2.2.1.toNat) ++ (if w.2.2.2.1 = -1 then [] else mx_pre σ al c k w.2.2.2.1.toNat))) = _
  rw [hw]
end
