/-! PLANS: the reference writes them -/
section
variable {n : Nat} {μ : am_M} {al : Int} {c : Nat → Int}
abbrev mx_Cn : List Nat := [109, 110, 111, 112, 113, 114, 125, 126, 127, 128, 129, 130, 131, 132, 133]
abbrev mx_Pn : List (Nat × Nat) := [(82, 35), (82, 52)]
theorem mx_dec3 (k : Nat) (hk : k < 1920) : am_w (Int.tdiv (k : Int) 30) = ((k / 30 : Nat) : Int) ∧ am_w (am_w (Int.tdiv (Int.tmod (k : Int) 30) 6) - 1) = ((k % 30 / 6 : Nat) : Int) - 1 ∧ am_w (Int.tmod (k : Int) 6 - 1) = ((k % 6 : Nat) : Int) - 1 := by
  have t1 : am_w (Int.tdiv (k : Int) 30) = ((k / 30 : Nat) : Int) := by
    rw [show Int.tdiv (k : Int) 30 = ((k / 30 : Nat) : Int) by rw [Int.tdiv_eq_ediv_of_nonneg (by omega)]; omega, mx_w_id (by omega) (by omega)]
  have t2 : am_w (am_w (Int.tdiv (Int.tmod (k : Int) 30) 6) - 1) = ((k % 30 / 6 : Nat) : Int) - 1 := by
    rw [show Int.tmod (k : Int) 30 = ((k % 30 : Nat) : Int) by rw [Int.tmod_eq_emod_of_nonneg (by omega)]; omega, show Int.tdiv ((k % 30 : Nat) : Int) 6 = ((k % 30 / 6 : Nat) : Int) by rw [Int.tdiv_eq_ediv_of_nonneg (by omega)]; omega, mx_w_id (z := ((k % 30 / 6 : Nat) : Int)) (by omega) (by omega), mx_w_id (by omega) (by omega)]
  have t3 : am_w (Int.tmod (k : Int) 6 - 1) = ((k % 6 : Nat) : Int) - 1 := by
    rw [show Int.tmod (k : Int) 6 = ((k % 6 : Nat) : Int) by rw [Int.tmod_eq_emod_of_nonneg (by omega)]; omega, mx_w_id (by omega) (by omega)]
  exact ⟨t1, t2, t3⟩
/-- what plans() stands on -/
def mx_prd (μ τ : am_M) (al : Int) (c : Nat → Int) : Prop := mx_rW μ τ ∧ τ 82 4 = al ∧ mx_cI μ al (τ 107) ∧ ∀ D, mx_dd μ D → mx_cap (τ 107) D = c D
theorem mx_prd_fr {τ τ' : am_M} (h : mx_prd μ τ al c) (F : mx_Fq mx_Cn mx_Pn τ τ') : mx_prd μ τ' al c := by
  have k : ∀ i, i ≠ 82 → i < 109 → τ' i = τ i := fun i q q' => funext fun j => F i j (by simp only [List.mem_cons, List.not_mem_nil, or_false, not_or]; omega) (by simp only [List.mem_cons, List.not_mem_nil, or_false, Prod.mk.injEq]; omega)
  have k2 : ∀ j, j < 35 → τ' 82 j = τ 82 j := fun j q => F 82 j (by decide) (by simp only [List.mem_cons, List.not_mem_nil, or_false, Prod.mk.injEq]; omega)
  obtain ⟨⟨h1, h2⟩, h3, h4, h5⟩ := h
  refine ⟨⟨mx_rl_fr h1 (fun i j a b => by rw [k i (by omega) (by omega)]) (fun j q => k2 j (by omega)), ?_⟩, by rw [k2 4 (by decide)]; exact h3, by rw [k 107 (by decide) (by decide)]; exact h4, by rw [k 107 (by decide) (by decide)]; exact h5⟩
  rw [k 104 (by decide) (by decide), k 105 (by decide) (by decide)]
  exact h2
/-- the picked way, written -/
theorem mo_plans_33_p {τ : am_M} (hr : mx_rl μ τ) (dp D i j : Nat) (hD : D < 1920) (hi : i < 120) {W : List mx_wt} (hL : W.length ≤ 386) (hW : mx_LW τ W) {w : mx_wt} (hw : W[j]? = some w) (ok : mx_wok μ w) (hI : mx_cI μ al (τ 107)) (hs : mx_s1 (τ 107) w = τ 107 D) (hb : (w.2.1 = -1 ∧ (w.1 = 10 ∨ w.1 = 11)) ∨ ∃ e : Nat, w.2.1 = e ∧ (e : Int) < μ 2 3 ∧ w.1 < 10) :
    ∃ τ' : am_M, mo_plans_33 (dp + 1) D i j τ n = mo_plans_216 (dp + 1) D i w.2.2.1 w.2.2.2.1 i (mx_hlf μ w) τ' n ∧ mx_Fq mx_Cn [] τ τ' ∧ (∀ a x, x ≠ i → τ' a x = τ a x) ∧
      τ' 125 i = w.1 ∧ τ' 126 i = mx_own μ D w ∧ τ' 127 i = ((D / 30 : Nat) : Int) ∧ τ' 128 i = ((D % 30 / 6 : Nat) : Int) - 1 ∧ τ' 129 i = ((D % 6 : Nat) : Int) - 1 ∧ τ' 130 i = w.2.2.2.2.1 := by
  have hj : j < W.length := (List.getElem?_eq_some_iff.mp hw).1
  have j4 : j < 400 := by omega
  have I : (0 : Int) ≤ (i : Int) ∧ (i : Int) < 121 := ⟨by omega, by omega⟩
  have J : (0 : Int) ≤ (j : Int) ∧ (j : Int) < 400 := ⟨by omega, by omega⟩
  have Db : (0 : Int) ≤ (D : Int) ∧ (D : Int) < 1920 := ⟨by omega, by omega⟩
  obtain ⟨e1, e2, e3, e4, e5, e6⟩ := hW.2 j w hw
  obtain ⟨t1, t2, t3⟩ := mx_dec3 D hD
  rw [mo_plans_33_e, mo_sum_s dp j τ W w hW hL hw ok hI, Option.bind_some, ix_107 Db.1 Db.2]
  dsimp only
  rw [Int.toNat_natCast, if_pos (mx_cmpE.mpr hs), ix_109 J.1 J.2, ix_110 J.1 J.2, ix_111 J.1 J.2, ix_112 J.1 J.2, ix_125 I.1 I.2, mx_m, ix_127 I.1 I.2, mx_m, ix_128 I.1 I.2, mx_m, ix_129 I.1 I.2, mx_m, t1, t2, t3, Int.toNat_natCast, Int.toNat_natCast]
  simp only [e1, e2, e3, e4]
  clear t1 t2 t3
  generalize hσ : am_wr (am_wr (am_wr (am_wr τ 125 i w.1) 127 i ((D / 30 : Nat) : Int)) 128 i (((D % 30 / 6 : Nat) : Int) - 1)) 129 i (((D % 6 : Nat) : Int) - 1) = σ
  have F0 : mx_Fq [125, 127, 128, 129] [] τ σ := by rw [← hσ]; exact mx_fq_wr (mx_fq_wr (mx_fq_wr (mx_fq_wr mx_fq_rf rfl) rfl) rfl) rfl
  have F : mx_Fq mx_Cn [] τ σ := mx_fq_up F0 rfl
  have O : ∀ a x, x ≠ i → σ a x = τ a x := fun a x hx => by
    rw [← hσ]
    unfold am_wr
    rw [if_neg (fun q => hx q.2), if_neg (fun q => hx q.2), if_neg (fun q => hx q.2), if_neg (fun q => hx q.2)]
  have V : σ 125 i = w.1 ∧ σ 127 i = ((D / 30 : Nat) : Int) ∧ σ 128 i = ((D % 30 / 6 : Nat) : Int) - 1 ∧ σ 129 i = ((D % 6 : Nat) : Int) - 1 := by
    rw [← hσ]
    refine ⟨?_, ?_, ?_, ?_⟩
    · rw [mx_wr_ne (by decide), mx_wr_ne (by decide), mx_wr_ne (by decide), mx_wr_at]
    · rw [mx_wr_ne (by decide), mx_wr_ne (by decide), mx_wr_at]
    · rw [mx_wr_ne (by decide), mx_wr_at]
    · rw [mx_wr_at]
  clear hσ
  have hr2 : mx_rl μ σ := mx_rl_fr hr (fun i j a b => F i j (by simp only [List.mem_cons, List.not_mem_nil, or_false, not_or]; omega) (by simp)) (fun j _ => F 82 j (by decide) (by simp))
  have hb2 : w.2.1 = -1 ∨ ∃ e : Nat, w.2.1 = e ∧ (e : Int) < μ 2 3 := by
    rcases hb with q | ⟨e, q1, q2, -⟩
    · exact Or.inl q.1
    · exact Or.inr ⟨e, q1, q2⟩
  have e113 : σ 113 j = w.2.2.2.2.1 := (F0 113 j (by decide) (by simp)).trans e5
  have fin : ∀ own : Int, own = mx_own μ D w → ∃ τ' : am_M, mo_plans_175 (dp + 1) D i j w.2.1 w.2.2.1 w.2.2.2.1 i own σ n = mo_plans_216 (dp + 1) D i w.2.2.1 w.2.2.2.1 i (mx_hlf μ w) τ' n ∧ mx_Fq mx_Cn [] τ τ' ∧ (∀ a x, x ≠ i → τ' a x = τ a x) ∧
      τ' 125 i = w.1 ∧ τ' 126 i = mx_own μ D w ∧ τ' 127 i = ((D / 30 : Nat) : Int) ∧ τ' 128 i = ((D % 30 / 6 : Nat) : Int) - 1 ∧ τ' 129 i = ((D % 6 : Nat) : Int) - 1 ∧ τ' 130 i = w.2.2.2.2.1 := fun own ho => by
    refine ⟨am_wr (am_wr σ 126 i own) 130 i (σ 113 j), mo_plans_175_s hr2 (dp + 1) D i j hD hi j4 _ _ _ _ hb2, mx_fq_wr (mx_fq_wr F rfl) rfl, fun a x hx => ?_, ?_, ?_, ?_, ?_, ?_, ?_⟩
    · rw [← O a x hx]
      unfold am_wr
      rw [if_neg (fun q => hx q.2), if_neg (fun q => hx q.2)]
    · rw [mx_wr_ne (by decide), mx_wr_ne (by decide)]; exact V.1
    · rw [mx_wr_ne (by decide), mx_wr_at]; exact ho
    · rw [mx_wr_ne (by decide), mx_wr_ne (by decide)]; exact V.2.1
    · rw [mx_wr_ne (by decide), mx_wr_ne (by decide)]; exact V.2.2.1
    · rw [mx_wr_ne (by decide), mx_wr_ne (by decide)]; exact V.2.2.2
    · rw [mx_wr_at]; exact e113
  by_cases k10 : w.1 = 10
  · rw [if_pos k10, ix_128 I.1 I.2]
    exact fin _ (by rw [V.2.2.1]; unfold mx_own; rw [if_pos k10])
  · by_cases k11 : w.1 = 11
    · rw [if_neg k10, if_pos k11, ix_129 I.1 I.2]
      exact fin _ (by rw [V.2.2.2]; unfold mx_own; rw [if_neg k10, if_pos k11])
    · rcases hb with q | ⟨e, q1, q2, q3⟩
      · omega
      · obtain ⟨hRe, -, -, -, -, -, r6⟩ := hr2.1
        have E : (0 : Int) ≤ w.2.1 ∧ w.2.1 < 144 := ⟨by omega, by omega⟩
        rw [if_neg k10, if_neg k11, ix_90 E.1 E.2]
        refine fin _ ?_
        unfold mx_own
        rw [if_neg k10, if_neg k11, q1, Int.toNat_natCast]
        exact (hRe e q2).2.1
/-- the nodes from m on -/
def mx_wn (μ τ : am_M) (al : Int) (c : Nat → Int) (m : Nat) (L : List (Nat × mx_wt)) : Prop := ∀ (i : Nat) (x : Nat × mx_wt), L[i]? = some x → mx_nr μ τ c (m + i) x ∧ τ 131 (m + i) = ((mx_nds μ al c x.1).length : Nat)
theorem mx_wn_fr {τ τ' : am_M} {m : Nat} {L : List (Nat × mx_wt)} (h : mx_wn μ τ al c m L) (F : ∀ a x, 125 ≤ a → a ≤ 133 → x < m + L.length → τ' a x = τ a x) : mx_wn μ τ' al c m L := fun i x hx => by
  have hl := (List.getElem?_eq_some_iff.mp hx).1
  obtain ⟨a, b⟩ := h i x hx
  unfold mx_nr at a ⊢
  have k : ∀ q, 125 ≤ q → q ≤ 133 → τ' q (m + i) = τ q (m + i) := fun q q1 q2 => F q _ q1 q2 (by omega)
  rw [k 125 (by decide) (by decide), k 126 (by decide) (by decide), k 127 (by decide) (by decide), k 128 (by decide) (by decide), k 129 (by decide) (by decide), k 130 (by decide) (by decide), k 131 (by decide) (by decide), k 132 (by decide) (by decide), k 133 (by decide) (by decide)]
  exact ⟨a, b⟩
theorem mx_wn_app {τ : am_M} {m : Nat} {A B : List (Nat × mx_wt)} (h1 : mx_wn μ τ al c m A) (h2 : mx_wn μ τ al c (m + A.length) B) : mx_wn μ τ al c m (A ++ B) := fun i x hx => by
  by_cases q : i < A.length
  · rw [List.getElem?_append_left q] at hx
    exact h1 i x hx
  · rw [List.getElem?_append_right (by omega)] at hx
    have := h2 _ x hx
    rw [show m + A.length + (i - A.length) = m + i by omega] at this
    exact this
theorem mx_wn_cons {τ : am_M} {m : Nat} {x : Nat × mx_wt} {A : List (Nat × mx_wt)} (h1 : mx_nr μ τ c m x ∧ τ 131 m = ((mx_nds μ al c x.1).length : Nat)) (h2 : mx_wn μ τ al c (m + 1) A) : mx_wn μ τ al c m (x :: A) := fun i y hy => by
  cases i with
  | zero =>
    cases hy
    exact h1
  | succ i =>
    rw [List.getElem?_cons_succ] at hy
    have := h2 i y hy
    rw [show m + 1 + i = m + (i + 1) by omega] at this
    exact this
end
