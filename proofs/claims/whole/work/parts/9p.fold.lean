/-! READ: what a text tells, one after another -/
section
variable {n : Nat} {σ μ : am_M}
abbrev mx_pt : Type := Int × Int × Int × Int × Int
def mx_gp (G : List Int) (x : Int) : Int := if x = -1 then -1 else G.getD x.toNat 0
def mx_twv (μ : am_M) (k o x y : Int) : am_M × Int := if mx_fm μ k o x y = -1 then (mx_tln μ k o x y, μ 2 9) else (μ, μ 9 (mx_fm μ k o x y).toNat)
def mx_tv (V : am_M × List Int) (q : mx_pt) : am_M × List Int := ((mx_twv V.1 q.1 q.2.1 (mx_gp V.2 q.2.2.1) (mx_gp V.2 q.2.2.2.1)).1, V.2 ++ [(mx_twv V.1 q.1 q.2.1 (mx_gp V.2 q.2.2.1) (mx_gp V.2 q.2.2.2.1)).2])
def mx_tal (μ : am_M) (L : List mx_pt) : am_M × List Int := L.foldl mx_tv (μ, [])
theorem mx_tal_app (L : List mx_pt) (q : mx_pt) : mx_tal μ (L ++ [q]) = mx_tv (mx_tal μ L) q := by
  unfold mx_tal
  rw [List.foldl_append]
  rfl
/-- each part was told as it should be -/
def mx_okq (μ : am_M) (A : List mx_pt) (q : mx_pt) : Prop := mx_lm (mx_tal μ A).1 q.1 q.2.1 (mx_gp (mx_tal μ A).2 q.2.2.1) (mx_gp (mx_tal μ A).2 q.2.2.2.1) ∧ q.2.2.2.2 = mx_cb q.1 q.2.1 (mx_tc ((mx_tal μ A).1 3) ((mx_tal μ A).1 11) q.1 q.2.1 (mx_gp (mx_tal μ A).2 q.2.2.1)) (mx_yc ((mx_tal μ A).1 11) (mx_gp (mx_tal μ A).2 q.2.2.2.1)) ∧
  (q.2.2.1 = -1 ∨ ∃ i : Nat, q.2.2.1 = i ∧ i < A.length) ∧ (q.2.2.2.1 = -1 ∨ ∃ i : Nat, q.2.2.2.1 = i ∧ i < A.length)
def mx_okl (μ : am_M) (L : List mx_pt) : Prop := ∀ (A : List mx_pt) (q : mx_pt) (R : List mx_pt), L = A ++ q :: R → mx_okq μ A q
theorem mx_okl_app {L : List mx_pt} {p : mx_pt} (h : mx_okl μ L) (hp : mx_okq μ L p) : mx_okl μ (L ++ [p]) := fun A q R e => by
  rcases List.eq_nil_or_concat R with z | ⟨R', r, z⟩
  · subst z
    have := List.append_inj' e rfl
    obtain ⟨e1, e2⟩ := this
    cases e2
    rw [← e1]; exact hp
  · rw [List.concat_eq_append] at z
    subst z
    have e' : L ++ [p] = (A ++ q :: R') ++ [r] := by rw [e]; simp only [List.append_assoc, List.cons_append]
    exact h A q R' (List.append_inj' e' rfl).1
/-- what stands after that -/
def mx_vj (μ : am_M) (L : List mx_pt) (V : am_M × List Int) : Prop :=
  mx_Wm V.1 ∧ (μ 2 3 ≤ V.1 2 3 ∧ V.1 2 3 ≤ μ 2 3 + L.length) ∧ μ 2 9 ≤ V.1 2 9 ∧ V.2.length = L.length ∧
  (∀ (i : Nat) (q : mx_pt), L[i]? = some q → ∃ g : Nat, V.2[i]? = some (g : Int) ∧ (g : Int) < V.1 2 9 ∧ V.1 10 g = g ∧ V.1 11 g = q.2.2.2.2) ∧
  (∀ e : Nat, (e : Int) < μ 2 3 → V.1 5 e = μ 5 e ∧ V.1 6 e = μ 6 e ∧ V.1 7 e = μ 7 e ∧ V.1 8 e = μ 8 e ∧ V.1 9 e = μ 9 e) ∧
  (∀ i : Nat, (i : Int) < μ 2 9 → V.1 10 i = μ 10 i ∧ V.1 11 i = μ 11 i ∧ V.1 12 i = μ 12 i) ∧ (∀ i : Nat, μ 2 9 ≤ (i : Int) → (i : Int) < V.1 2 9 → V.1 10 i = i) ∧
  mx_Fq [5, 6, 7, 8, 9, 10, 11, 12] [(2, 3), (2, 9), (2, 17)] μ V.1 ∧ (μ 2 17 ≤ V.1 2 17 ∧ V.1 2 17 ≤ μ 2 17 + L.length) ∧ (V.1 2 17 = μ 2 17 → V.1 = μ) ∧ (V.1 2 3 ≤ 64 → mx_gd V.1) ∧ (∀ S W, mx_Fs μ S W → mx_Fs V.1 S W) ∧ mx_okl μ L
theorem mx_vj_nil (hg : mx_gd μ) : mx_vj μ [] (mx_tal μ []) :=
  ⟨hg.1, ⟨Int.le_refl _, Int.le_add_of_nonneg_right (Int.natCast_nonneg _)⟩, Int.le_refl _, rfl, fun i q h => (by cases h), fun _ _ => ⟨rfl, rfl, rfl, rfl, rfl⟩, fun _ _ => ⟨rfl, rfl, rfl⟩, fun i h1 h2 => absurd h2 (Int.not_lt.mpr h1), mx_fq_rf, ⟨Int.le_refl _, Int.le_add_of_nonneg_right (Int.natCast_nonneg _)⟩, fun _ => rfl, fun _ => hg, fun _ _ h => h, fun A q R e => (by cases A <;> cases e)⟩
theorem mx_vj_step {L : List mx_pt} {V : am_M × List Int} (h : mx_vj μ L V) {k o x y cl : Int} (hl : mx_lm V.1 k o (mx_gp V.2 x) (mx_gp V.2 y)) (hc : cl = mx_cb k o (mx_tc (V.1 3) (V.1 11) k o (mx_gp V.2 x)) (mx_yc (V.1 11) (mx_gp V.2 y))) (b1 : V.1 2 3 < 143) (b2 : 0 ≤ μ 2 17 ∧ μ 2 17 + L.length < 2000000000) (hV : V = mx_tal μ L) (hx : x = -1 ∨ ∃ i : Nat, x = i ∧ i < L.length) (hy : y = -1 ∨ ∃ i : Nat, y = i ∧ i < L.length) :
    mx_vj μ (L ++ [(k, o, x, y, cl)]) (mx_tv V (k, o, x, y, cl)) := by
  obtain ⟨w, c3, c9, lg, gs, ae, ag, ar, F, v17, vE, gd, fs, okl⟩ := h
  have ok2 : mx_okl μ (L ++ [(k, o, x, y, cl)]) := mx_okl_app okl ⟨by rw [← hV]; exact hl, by rw [← hV]; exact hc, hx, hy⟩
  have w2 := w.2.1
  have L1 : (L ++ [(k, o, x, y, cl)]).length = L.length + 1 := by rw [List.length_append, List.length_singleton]
  rcases mx_fi_r (mx_al (V.1 5) (V.1 6) (V.1 7) (V.1 8) (V.1 9) k o (mx_gp V.2 x) (mx_gp V.2 y)) (V.1 2 3) (by omega) with ⟨f, -⟩ | ⟨e, f, e1, e2, -⟩
  · have f : mx_fm V.1 k o (mx_gp V.2 x) (mx_gp V.2 y) = -1 := f
    have e : mx_tv V (k, o, x, y, cl) = (mx_tln V.1 k o (mx_gp V.2 x) (mx_gp V.2 y), V.2 ++ [V.1 2 9]) := by
      unfold mx_tv mx_twv
      dsimp only
      rw [if_pos f]
    rw [e]
    obtain ⟨t5, t6, t7, t8, t9, t10, t11, t12, t3, t99, t17, tF⟩ := mx_tln_c hl
    have v1 : am_w (V.1 2 17 + 1) = V.1 2 17 + 1 := mx_w_id (by omega) (by omega)
    rw [v1] at t17
    refine ⟨mx_tln_W w hl f b1, ⟨?_, ?_⟩, ?_, ?_, fun i q hq => ?_, fun e he => ?_, fun i hi => ?_, fun i h1 h2 => ?_, mx_fq_tr F (mx_fq_up tF rfl), ⟨?_, ?_⟩, fun q => ?_, fun q => ?_, fun S W q => mx_tln_Fs w hl (fs S W q), ok2⟩
    · dsimp only; rw [t3]; omega
    · dsimp only; rw [t3, L1]; omega
    · dsimp only; rw [t99]; omega
    · rw [List.length_append, List.length_singleton, L1, lg]
    · dsimp only
      rw [t10, t11, t99]
      by_cases z : i < L.length
      · rw [List.getElem?_append_left z] at hq
        obtain ⟨g, g1, g2, g3, g4⟩ := gs i q hq
        refine ⟨g, by rw [List.getElem?_append_left (by omega)]; exact g1, by omega, ?_, ?_⟩
        · rw [mx_up_ne (by omega)]; exact g3
        · rw [mx_up_ne (by omega)]; exact g4
      · have hl' := (List.getElem?_eq_some_iff.mp hq).1
        rw [L1] at hl'
        have : i = L.length := by omega
        rw [List.getElem?_append_right (by omega), this, Nat.sub_self] at hq
        cases hq
        refine ⟨(V.1 2 9).toNat, ?_, by omega, ?_, ?_⟩
        · rw [this, List.getElem?_append_right (by omega), lg, Nat.sub_self, Int.toNat_of_nonneg (by omega)]; rfl
        · rw [mx_up_at, Int.toNat_of_nonneg (by omega)]
        · rw [mx_up_at]; exact hc.symm
    · dsimp only
      rw [t5, t6, t7, t8, t9, mx_up_ne (by omega), mx_up_ne (by omega), mx_up_ne (by omega), mx_up_ne (by omega), mx_up_ne (by omega)]
      exact ae e he
    · dsimp only
      rw [t10, t11, t12, mx_up_ne (by omega), mx_up_ne (by omega), mx_up_ne (by omega), mx_up_ne (by omega)]
      exact ag i hi
    · dsimp only at h2 ⊢
      rw [t99] at h2
      rw [t10]
      by_cases z : i = (V.1 2 9).toNat
      · rw [z, mx_up_at, Int.toNat_of_nonneg (by omega)]
      · rw [mx_up_ne z]; exact ar i h1 (by omega)
    · dsimp only; rw [t17]; omega
    · dsimp only; rw [t17, L1]; omega
    · dsimp only at q
      rw [t17] at q
      omega
    · dsimp only at q
      rw [t3] at q
      exact mx_tln_gd (gd (by omega)) hl f (by omega)
  · have f : mx_fm V.1 k o (mx_gp V.2 x) (mx_gp V.2 y) = e := f
    have ev : mx_tv V (k, o, x, y, cl) = (V.1, V.2 ++ [V.1 9 e]) := by
      unfold mx_tv mx_twv
      dsimp only
      rw [if_neg (by omega), f, Int.toNat_natCast]
    rw [ev]
    obtain ⟨d1, d2, d3, d4, d5⟩ := of_decide_eq_true (show decide (V.1 5 e = k ∧ V.1 6 e = o ∧ V.1 7 e = mx_gp V.2 x ∧ V.1 8 e = mx_gp V.2 y ∧ V.1 9 e ≠ -1) = true from e2)
    have sh := (w.2.2.1.1 e e1 d5).1
    have cs := (w.2.2.2.2.2.2.2.2 e e1 d5).1
    rw [d1, d2, d3, d4] at cs
    refine ⟨w, ⟨c3.1, by dsimp only; rw [L1]; omega⟩, c9, by rw [List.length_append, List.length_singleton, L1, lg], fun i q hq => ?_, ae, ag, ar, F, ⟨v17.1, by dsimp only; rw [L1]; omega⟩, vE, gd, fs, ok2⟩
    dsimp only
    by_cases z : i < L.length
    · rw [List.getElem?_append_left z] at hq
      obtain ⟨g, g1, g2⟩ := gs i q hq
      exact ⟨g, by rw [List.getElem?_append_left (by omega)]; exact g1, g2⟩
    · have hl' := (List.getElem?_eq_some_iff.mp hq).1
      rw [L1] at hl'
      have : i = L.length := by omega
      rw [List.getElem?_append_right (by omega), this, Nat.sub_self] at hq
      cases hq
      refine ⟨(V.1 9 e).toNat, ?_, by omega, ?_, ?_⟩
      · rw [this, List.getElem?_append_right (by omega), lg, Nat.sub_self, Int.toNat_of_nonneg sh.1]; rfl
      · rw [sh.2.2, Int.toNat_of_nonneg sh.1]
      · rw [cs]; exact hc.symm
end
