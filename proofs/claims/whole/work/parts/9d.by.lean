section
variable {μ : am_M} {al : Int}
/-- by whom a way is, of which kind, how many inputs it has -/
theorem mx_wl_by (hg : mx_gd μ) {d : Nat} (hd : mx_dd μ d) {w : mx_wt} (h : w ∈ mx_wl μ al d) :
    (w.2.1 = -1 ∧ (w.1 = 10 ∨ w.1 = 11) ∧ w.2.2.1 ≠ -1 ∧ w.2.2.2.1 = -1) ∨
    ∃ e : Nat, w.2.1 = e ∧ (e : Int) < μ 2 3 ∧ μ 9 e = (d / 30 : Nat) ∧ ((w.1 = 1 ∧ μ 5 e = 1 ∧ w.2.2.1 = -1 ∧ w.2.2.2.1 = -1) ∨ (w.1 = 2 ∧ μ 5 e = 3 ∧ w.2.2.1 ≠ -1 ∧ w.2.2.2.1 = -1) ∨ ((w.1 = 8 ∨ w.1 = 9) ∧ μ 5 e = 4 ∧ w.2.2.1 ≠ -1 ∧ w.2.2.2.1 = -1) ∨ ((w.1 = 4 ∨ w.1 = 5 ∨ w.1 = 6) ∧ (μ 5 e = 5 ∨ μ 5 e = 6) ∧ w.2.2.1 ≠ -1 ∧ w.2.2.2.1 ≠ -1)) := by
  have hdl := mx_dd_lt hg hd
  have ob := mx_op d hdl
  have w2 := hg.1.2.1
  have dm : ∀ {g o p : Int}, 0 ≤ g → -1 ≤ o → -1 ≤ p → mx_dm g o p ≠ -1 := fun h1 h2 h3 => by unfold mx_dm; omega
  unfold mx_wl at h
  rw [List.mem_append, List.mem_append] at h
  rcases h with (h | h) | h
  · right
    obtain ⟨e, e1, e2, e3, e4⟩ := mx_wm_mem _ _ h
    obtain ⟨s, s1, s2⟩ := mx_we_mem e4
    have he : (e : Int) < μ 2 3 := by omega
    have hH : μ 9 e ≠ -1 := by omega
    have q := hg.1.2.2.1.1 e he hH
    have ke := hg.1.2.2.2.1 e he
    have kk := ke.2.2.2.2.2 hH
    have kd := mx_kd_n ke.1
    refine ⟨e, mx_we_by e4, he, e3, ?_⟩
    unfold mx_sl at s2
    by_cases k1 : μ 5 e = 1
    · rw [if_pos k1] at s2
      have s2 := mx_pickb s2
      subst s2
      exact Or.inl ⟨rfl, k1, rfl, rfl⟩
    · have xx : 0 ≤ μ 7 e := by rcases q.2.1 with z | z; exact absurd (kk.1.mpr z) k1; exact z.1
      by_cases k3 : μ 5 e = 3
      · rw [if_neg k1, if_pos k3] at s2
        have s2 := mx_pickb s2
        subst s2
        exact Or.inr (Or.inl ⟨rfl, k3, dm xx ob.1.1 ob.2.1, rfl⟩)
      · rw [if_neg k1, if_neg k3] at s2
        have pb : 0 ≤ μ 6 e := ke.2.1.1
        have s2 := mx_pickb s2
        subst s2
        have o1 : -1 ≤ (if mx_first (μ 5 e) + (s / 2 : Nat) = 5 ∨ mx_first (μ 5 e) + (s / 2 : Nat) = 9 then μ 6 e else ((d % 30 / 6 : Nat) : Int) - 1) := by split <;> omega
        have o2 : -1 ≤ (if mx_first (μ 5 e) + (s / 2 : Nat) = 5 ∨ mx_first (μ 5 e) + (s / 2 : Nat) = 9 then μ 6 e else -1) := by split <;> omega
        have o3 : -1 ≤ (if s % 2 = 0 then μ 6 e else 4) := by split <;> omega
        by_cases k4 : μ 5 e = 4
        · have y8 : μ 8 e = -1 := kk.2.mp (by omega)
          rw [k4] at s1
          have s4 : s < 4 := s1
          refine Or.inr (Or.inr (Or.inl ⟨?_, k4, dm xx o1 o3, ?_⟩))
          · show mx_first (μ 5 e) + (s / 2 : Nat) = 8 ∨ mx_first (μ 5 e) + (s / 2 : Nat) = 9
            rw [k4, show mx_first 4 = 8 from rfl]
            omega
          · show (if μ 8 e = -1 then (-1 : Int) else _) = -1
            rw [if_pos y8]
        · have y8 : μ 8 e ≠ -1 := fun z => by have := kk.2.mpr z; omega
          have yy : 0 ≤ μ 8 e := by rcases q.2.2 with z | z; exact absurd z y8; exact z.1
          have k56 : μ 5 e = 5 ∨ μ 5 e = 6 := by omega
          have f4 : mx_first (μ 5 e) = 4 ∧ mx_slots (μ 5 e) = 6 := by rcases k56 with z | z <;> rw [z] <;> decide
          rw [f4.2] at s1
          refine Or.inr (Or.inr (Or.inr ⟨?_, k56, dm xx o1 o3, ?_⟩))
          · show mx_first (μ 5 e) + (s / 2 : Nat) = 4 ∨ mx_first (μ 5 e) + (s / 2 : Nat) = 5 ∨ mx_first (μ 5 e) + (s / 2 : Nat) = 6
            rw [f4.1]
            omega
          · show (if μ 8 e = -1 then (-1 : Int) else _) ≠ -1
            rw [if_neg y8]
            exact dm yy o2 o3
  · left
    unfold mx_wst at h
    split at h
    · rw [List.mem_singleton] at h
      subst h
      exact ⟨rfl, Or.inl rfl, dm (by omega) (by decide) ob.2.1, rfl⟩
    · cases h
  · left
    unfold mx_wsp at h
    split at h
    · rw [List.mem_singleton] at h
      subst h
      exact ⟨rfl, Or.inr rfl, dm (by omega) (by decide) (by decide), rfl⟩
    · cases h
end
