/-! an expression is added; what is told -/
section
variable {m g : Int} {K P X Y H T : Nat → Int} {σ : am_M}
theorem mo_adds_mid (h : mx_R m g K P X Y H T σ) (d : Nat) (n : Nat) (k p x y v5 : Int) (hm : m < 143) (hx : k ≠ 1 → 0 ≤ x ∧ x < g) (hy : 5 ≤ k → 0 ≤ y ∧ y < g) :
    mo_adds (d + 2) k p x y v5 σ n = mo_adds_66 (d + 1) v5 m (mx_yk k y T) (am_wr (am_wr (am_wr σ 89 m.toNat k) 90 m.toNat p) 91 m.toNat (mx_xk k x T)) n := by
  obtain ⟨hRe, hRi, h1, h2, h3, h4, h5⟩ := h
  have e1 : ∀ (s : Int) (τ : am_M), τ 82 1 = m → τ 94 = σ 94 → mo_adds_42 (d + 1) k y v5 m s τ n = mo_adds_66 (d + 1) v5 m (mx_yk k y T) (am_wr τ 91 m.toNat s) n := by
    intro s τ ht ht2
    rw [mo_adds_42_e]
    simp (disch := first | omega | decide) only [ix_91, am_m, mx_wr_ne, ht]
    unfold mx_yk
    by_cases hk : k < 5
    · rw [if_pos hk, if_pos hk]
    · rw [if_neg hk, if_neg hk, mo_root_s d _ n (by simp (disch := first | omega | decide) only [mx_wr_ne, ht2]; exact hRi) (by omega) y (hy (by omega)).1 (hy (by omega)).2, Option.bind_some]
  rw [mo_adds_e, h1]
  simp (disch := first | omega | decide) only [ix_89, ix_90, am_m, mx_wr_ne, h1]
  by_cases hk : k = 1
  · rw [if_pos hk]
    have := e1 (-1) (am_wr (am_wr σ 89 m.toNat k) 90 m.toNat p) (by simp (disch := first | omega | decide) only [mx_wr_ne, h1]) (by simp (disch := first | omega | decide) only [mx_wr_ne])
    unfold mx_xk
    rw [if_pos hk]
    exact this
  · rw [if_neg hk, mo_root_s d _ n (by simp (disch := first | omega | decide) only [mx_wr_ne]; exact hRi) (by omega) x (hx hk).1 (hx hk).2, Option.bind_some]
    unfold mx_xk
    rw [if_neg hk]
    exact e1 (T x.toNat) (am_wr (am_wr σ 89 m.toNat k) 90 m.toNat p) (by simp (disch := first | omega | decide) only [mx_wr_ne, h1]) (by simp (disch := first | omega | decide) only [mx_wr_ne])
theorem mx_Re_add (h : mx_R m g K P X Y H T σ) (k p x y v : Int) {g' : Int} {T' : Nat → Int} (hg : g ≤ g') (hT : ∀ i : Nat, (i : Int) < g → T' i = T i) (hv : 0 ≤ v ∧ v < g') (hv2 : T' v.toNat ≠ -1) (hx : k ≠ 1 → 0 ≤ x ∧ x < g) (hy : 5 ≤ k → 0 ≤ y ∧ y < g) :
    mx_Re (m + 1) g' (mx_up K m.toNat k) (mx_up P m.toNat p) (mx_up X m.toNat (mx_xk k x T)) (mx_up Y m.toNat (mx_yk k y T)) (mx_up H m.toNat (T' v.toNat)) T' (mx_up (σ 89) m.toNat k) (mx_up (σ 90) m.toNat p) (mx_up (σ 91) m.toNat (mx_xk k x T)) (mx_up (σ 92) m.toNat (mx_yk k y T)) (mx_up (σ 93) m.toNat v) (mx_up (σ 95) m.toNat 0) := by
  obtain ⟨hRe, hRi, h1, h2, h3, h4, h5⟩ := h
  intro e he
  unfold mx_re
  by_cases q : e = m.toNat
  · subst q
    simp only [mx_up_at]
    refine ⟨trivial, trivial, by rw [if_neg hv2], fun _ => ⟨⟨hv.1, hv.2, trivial⟩, fun hk => ?_, fun hk => ?_, fun hk => ?_, fun hk => ?_⟩⟩
    · unfold mx_xk
      rw [if_neg hk]
      obtain ⟨a, b, c⟩ := mx_Ri_T hRi x.toNat (by have := hx hk; omega)
      have := hx hk
      refine ⟨a, by omega, ?_⟩
      rw [hT _ (by omega)]; exact c
    · unfold mx_xk; rw [if_pos hk]
    · unfold mx_yk
      rw [if_neg (by omega)]
      obtain ⟨a, b, c⟩ := mx_Ri_T hRi y.toNat (by have := hy hk; omega)
      have := hy hk
      refine ⟨a, by omega, ?_⟩
      rw [hT _ (by omega)]; exact c
    · unfold mx_yk; rw [if_pos hk]
  · have he' : (e : Int) < m := by omega
    simp only [mx_up_ne q]
    obtain ⟨a1, a2, a3, a4⟩ := hRe e he'
    refine ⟨a1, a2, a3, fun hH => ?_⟩
    obtain ⟨⟨b1, b2, b3⟩, c1, c2, c3, c4⟩ := a4 hH
    refine ⟨⟨b1, by omega, by rw [hT _ (by omega)]; exact b3⟩, fun hk => ?_, c2, fun hk => ?_, c4⟩
    · obtain ⟨x1, x2, x3⟩ := c1 hk
      exact ⟨x1, by omega, by rw [hT _ (by omega)]; exact x3⟩
    · obtain ⟨x1, x2, x3⟩ := c3 hk
      exact ⟨x1, by omega, by rw [hT _ (by omega)]; exact x3⟩
/-- a new group -/
theorem mo_adds_new (h : mx_R m g K P X Y H T σ) (d : Nat) (n : Nat) (k p x y : Int) (hm : m < 143) (hx : k ≠ 1 → 0 ≤ x ∧ x < g) (hy : 5 ≤ k → 0 ≤ y ∧ y < g) :
    ∃ σ' : am_M, mo_adds (d + 2) k p x y (-1) σ n = some (g, σ', n) ∧ mx_Fr [82, 89, 90, 91, 92, 93, 94, 95] σ σ' ∧ (∀ j, j ≠ 1 → j ≠ 2 → σ' 82 j = σ 82 j) ∧
      mx_R (m + 1) (g + 1) (mx_up K m.toNat k) (mx_up P m.toNat p) (mx_up X m.toNat (mx_xk k x T)) (mx_up Y m.toNat (mx_yk k y T)) (mx_up H m.toNat g) (mx_up T g.toNat g) σ' := by
  rw [mo_adds_mid h d n k p x y (-1) hm hx hy]
  have hh := h
  obtain ⟨hRe, hRi, h1, h2, h3, h4, h5⟩ := h
  rw [mo_adds_66_e]
  simp (disch := first | omega | decide) only [ix_92, ix_93, ix_94, ix_95, am_m, mx_wr_ne, mx_wr_at, mx_wr_off, h1, h2, if_true, mo_adds_133_e, mx_w_id, Int.add_sub_cancel]
  refine ⟨_, rfl, ?_, ?_, ?_, ?_, ?_, ?_, by omega, by omega, by omega⟩
  · (intro i hi; simp only [List.mem_cons, List.not_mem_nil, or_false, not_or] at hi; simp (disch := first | omega | decide) only [mx_wr_ne])
  · intro j hj1 hj2
    simp (disch := first | omega | decide) only [mx_wr_ne, mx_wr_off]
  · have := mx_Re_add hh k p x y g (g' := g + 1) (T' := mx_up T g.toNat g) (by omega) (fun i hi => mx_up_ne (by omega)) ⟨by omega, by omega⟩ (by rw [mx_up_at]; omega) hx hy
    rw [mx_up_at] at this
    simp (disch := first | omega | decide) only [mx_wr_ne, mx_wr_up]
    exact this
  · simp (disch := first | omega | decide) only [mx_wr_ne, mx_wr_up]
    intro i hi
    by_cases q : i = g.toNat
    · subst q
      rw [mx_up_at, mx_up_at]
      exact ⟨by omega, by omega, fun _ => by omega, rfl⟩
    · obtain ⟨a, b, c, e⟩ := hRi i (by omega)
      rw [mx_up_ne q, mx_up_ne q, mx_up_ne (by omega)]
      exact ⟨a, b, c, e⟩
  · simp (disch := first | omega | decide) only [mx_wr_ne, mx_wr_at]
  · simp (disch := first | omega | decide) only [mx_wr_ne, mx_wr_at, mx_wr_off]
/-- one more in a group -/
theorem mo_adds_in (h : mx_R m g K P X Y H T σ) (d : Nat) (n : Nat) (k p x y v : Int) (hm : m < 143) (hx : k ≠ 1 → 0 ≤ x ∧ x < g) (hy : 5 ≤ k → 0 ≤ y ∧ y < g) (hv : 0 ≤ v ∧ v < g) (hgm : g ≤ m) :
    ∃ σ' : am_M, mo_adds (d + 2) k p x y v σ n = some (v, σ', n) ∧ mx_Fr [82, 89, 90, 91, 92, 93, 95] σ σ' ∧ (∀ j, j ≠ 1 → σ' 82 j = σ 82 j) ∧
      mx_R (m + 1) g (mx_up K m.toNat k) (mx_up P m.toNat p) (mx_up X m.toNat (mx_xk k x T)) (mx_up Y m.toNat (mx_yk k y T)) (mx_up H m.toNat (T v.toNat)) T σ' := by
  rw [mo_adds_mid h d n k p x y v hm hx hy]
  have hh := h
  obtain ⟨hRe, hRi, h1, h2, h3, h4, h5⟩ := h
  obtain ⟨t1, t2, t3⟩ := mx_Ri_T hRi v.toNat (by omega)
  rw [mo_adds_66_e]
  simp (disch := first | omega | decide) only [ix_92, ix_93, ix_94, ix_95, am_m, mx_wr_ne, mx_wr_at, mx_wr_off, h1, h2, if_neg (show ¬ v = -1 by omega), mo_adds_133_e, mx_w_id, Int.add_sub_cancel]
  refine ⟨_, rfl, ?_, ?_, ?_, ?_, ?_, ?_, by omega, by omega, by omega⟩
  · (intro i hi; simp only [List.mem_cons, List.not_mem_nil, or_false, not_or] at hi; simp (disch := first | omega | decide) only [mx_wr_ne])
  · intro j hj1
    simp (disch := first | omega | decide) only [mx_wr_ne, mx_wr_off]
  · have := mx_Re_add hh k p x y v (g' := g) (T' := T) (by omega) (fun i hi => rfl) hv (by omega) hx hy
    simp (disch := first | omega | decide) only [mx_wr_ne, mx_wr_up]
    exact this
  · simp (disch := first | omega | decide) only [mx_wr_ne]
    exact hRi
  · simp (disch := first | omega | decide) only [mx_wr_ne, mx_wr_at]
  · simp (disch := first | omega | decide) only [mx_wr_ne, mx_wr_off, h2]
end
