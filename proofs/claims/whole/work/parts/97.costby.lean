section
variable {t n : Nat} {σ μ : am_M} {al : Int} {c : Nat → Int}
theorem mx_we_by {o p : Int} {e : Nat} {w : mx_wt} (h : w ∈ mx_we μ al o p e 0) : w.2.1 = e := by
  obtain ⟨s, -, h⟩ := mx_we_mem h
  unfold mx_sl at h
  split at h
  · have h := mx_pickb h
    subst h; rfl
  · split at h
    · have h := mx_pickb h
      subst h; rfl
    · have h := mx_pickb h
      subst h; rfl
theorem mx_we_f {o p : Int} (e x : Nat) : (mx_we μ al o p x 0).filter (fun w => decide (w.2.1 = (e : Int))) = if x = e then mx_we μ al o p x 0 else [] := by
  by_cases q : x = e
  · rw [if_pos q]
    refine List.filter_eq_self.mpr fun w hw => ?_
    rw [mx_we_by hw, q]
    exact decide_eq_true rfl
  · rw [if_neg q]
    refine List.filter_eq_nil_iff.mpr fun w hw => ?_
    rw [mx_we_by hw]
    intro z
    have := of_decide_eq_true z
    omega
theorem mx_wm_f {g o p : Int} (e : Nat) (hg : μ 9 e = g) : ∀ (k a : Nat), (mx_wm μ al g o p k a).filter (fun w => decide (w.2.1 = (e : Int))) = if a ≤ e ∧ e < a + k then mx_we μ al o p e 0 else [] := by
  intro k
  induction k with
  | zero => intro a; rw [if_neg (by omega)]; rfl
  | succ k ih =>
    intro a
    have mS : mx_wm μ al g o p (k + 1) a = (if μ 9 a = g then mx_we μ al o p a 0 else []) ++ mx_wm μ al g o p k (a + 1) := rfl
    rw [mS, List.filter_append, ih (a + 1)]
    by_cases q : a = e
    · subst q
      rw [if_pos hg, mx_we_f, if_pos rfl, if_neg (by omega), if_pos (by omega), List.append_nil]
    · have z : (if μ 9 a = g then mx_we μ al o p a 0 else []).filter (fun w => decide (w.2.1 = (e : Int))) = [] := by
        split
        · rw [mx_we_f, if_neg q]
        · rfl
      rw [z, List.nil_append]
      by_cases y : a + 1 ≤ e ∧ e < a + 1 + k
      · rw [if_pos y, if_pos (by omega)]
      · rw [if_neg y, if_neg (by omega)]
/-- the ways of a demand by one expression -/
theorem mx_wl_f (e D : Nat) (he : (e : Int) < μ 2 3) (hH : μ 9 e = (D / 30 : Nat)) : (mx_wl μ al D).filter (fun w => decide (w.2.1 = (e : Int))) = mx_we μ al (((D % 30 / 6 : Nat) : Int) - 1) (((D % 6 : Nat) : Int) - 1) e 0 := by
  have nil : ∀ W : List mx_wt, (∀ w ∈ W, w.2.1 = -1) → W.filter (fun w => decide (w.2.1 = (e : Int))) = [] := fun W h => by
    refine List.filter_eq_nil_iff.mpr fun w hw => ?_
    rw [h w hw]
    intro z
    have := of_decide_eq_true z
    omega
  unfold mx_wl
  rw [List.filter_append, List.filter_append, mx_wm_f e hH, if_pos (by omega), nil (mx_wst μ al _ _ _), nil (mx_wsp μ al _ _ _), List.append_nil, List.append_nil]
  · intro w hw
    unfold mx_wsp at hw
    split at hw
    · rw [List.mem_singleton] at hw; subst hw; rfl
    · cases hw
  · intro w hw
    unfold mx_wst at hw
    split at hw
    · rw [List.mem_singleton] at hw; subst hw; rfl
    · cases hw
theorem co_cheapestBy_15_s (dp d e : Nat) (hd : d < 1920) : ∀ (R : List mx_wt) (M i : Nat) (v : Int) (σ : am_M), i + R.length < 1000 → M < 900 → (e : Int) < σ 2 3 → mx_gd σ → mx_Pv σ → mx_dd σ d → mx_ws σ d R M → mx_f0 (σ 34) → (∀ w ∈ R, mx_wok σ w ∧ mx_kn σ w.2.2.1 ∧ mx_kn σ w.2.2.2.1) →
    ∃ σ' : am_M, co_cheapestBy_15 (dp + 5) e v i σ n = some (mx_mins (σ 34) v (R.filter (fun w => decide (w.2.1 = (e : Int)))), σ', n) ∧ mx_Fq [] mx_P37 σ σ' := by
  intro R
  induction R with
  | nil =>
    intro M i v σ hi hM he hg hP hdd hw hf hk
    have i1k : (i : Int) < 1000 := by rw [List.length_nil] at hi; omega
    rcases wa_advance_s (n := n) hg hP hd hdd hM hw dp with ⟨-, σ', p1, p2⟩ | ⟨w, R', σ', M', q, -⟩
    · refine ⟨σ', ?_, p2⟩
      rw [co_cheapestBy_15_e, if_pos i1k, p1, Option.bind_some]
      rfl
    · cases q
  | cons w R ih =>
    intro M i v σ hi hM he hg hP hdd hw hf hk
    have i1k : (i : Int) < 1000 := by rw [List.length_cons] at hi; omega
    rcases wa_advance_s (n := n) hg hP hd hdd hM hw dp with ⟨q, -⟩ | ⟨w', R', σ1, M', q, p1, p2, p3, p4, p5, p6, p7⟩
    · cases q
    · cases q
      have c34 : σ1 34 = σ 34 := funext fun j => p2 34 j (by simp) (by unfold mx_P37; simp)
      have c2 : σ1 2 = σ 2 := funext fun j => p2 2 j (by simp) (by unfold mx_P37; simp)
      obtain ⟨g1, g2, g3⟩ := mx_gdP_fr p2 hg hP hdd
      have dd1 := (mx_cf (mx_P37_38 p2) hg hP).2.2.2.1
      have vk : ∀ v, mx_vk σ v → mx_vk σ1 v := fun v h => by
        rcases h with h | ⟨j, h1, h2, h3⟩
        · exact Or.inl h
        · exact Or.inr ⟨j, h1, h2, (dd1 j).mpr h3⟩
      have kn : ∀ v, mx_kn σ v → mx_kn σ1 v := fun v h => by unfold mx_kn at h ⊢; rw [c34]; exact h
      obtain ⟨⟨o1, o2, o3⟩, k1, k2⟩ := hk w List.mem_cons_self
      have cw := co_costOfWay_s (n := n) (dp + 3) p5 ⟨vk _ o1, vk _ o2, o3⟩ (kn _ k1) (kn _ k2) (by rw [c34]; exact hf)
      have rest : ∀ v, ∃ σ' : am_M, co_cheapestBy_15 (dp + 5) e v ((i + 1 : Nat) : Int) σ1 n = some (mx_mins (σ 34) v (R.filter (fun w => decide (w.2.1 = (e : Int)))), σ', n) ∧ mx_Fq [] mx_P37 σ1 σ' := fun v => by
        have := ih M' (i + 1) v σ1 (by rw [List.length_cons] at hi; omega) (by omega) (by rw [c2]; exact he) g1 g2 g3 p3 (by rw [c34]; exact hf) (fun x hx => by
          obtain ⟨⟨x1, x2, x3⟩, x4, x5⟩ := hk x (List.mem_cons_of_mem _ hx)
          exact ⟨⟨vk _ x1, vk _ x2, x3⟩, kn _ x4, kn _ x5⟩)
        rw [c34] at this
        exact this
      by_cases z : w.2.1 = (e : Int)
      · have s9 : σ1 37 9 = e := by rw [(p7 (by omega)).1, z]
        obtain ⟨σ', e1, e2⟩ := rest (am_mn v (mx_cw1 (σ 34) w))
        refine ⟨σ', ?_, mx_fq_tr p2 e2⟩
        rw [co_cheapestBy_15_e, if_pos i1k, p1, Option.bind_some]
        dsimp only
        rw [if_neg (by decide), if_pos s9, show co_costOfWay (dp + 5) σ1 n = _ from cw, Option.bind_some, mx_w_nat i1k, c34]
        dsimp only
        rw [e1, List.filter_cons, if_pos (decide_eq_true z)]
        rfl
      · have s9 : ¬ σ1 37 9 = e := by
          by_cases y : w.2.1 = -1
          · rw [p6 y]; omega
          · rw [(p7 y).1]; exact z
        obtain ⟨σ', e1, e2⟩ := rest v
        refine ⟨σ', ?_, mx_fq_tr p2 e2⟩
        rw [co_cheapestBy_15_e, if_pos i1k, p1, Option.bind_some]
        dsimp only
        rw [if_neg (by decide), if_neg s9, mx_w_nat i1k, e1, List.filter_cons, if_neg (fun a => z (of_decide_eq_true a))]
theorem co_cheapestBy_s (dp d e : Nat) (he : (e : Int) < σ 2 3) (hg : mx_gd σ) (hP : mx_Pv σ) (hdd : mx_dd σ d) (hf : mx_f0 (σ 34)) (hk : ∀ w ∈ mx_wl σ (σ 37 5) d, mx_kn σ w.2.2.1 ∧ mx_kn σ w.2.2.2.1) :
    ∃ σ' : am_M, co_cheapestBy (dp + 6) e d σ n = some (mx_mins (σ 34) 1000000000001 ((mx_wl σ (σ 37 5) d).filter (fun w => decide (w.2.1 = (e : Int)))), σ', n) ∧ mx_Fq [] mx_P37 σ σ' := by
  have hd := mx_dd_lt hg hdd
  obtain ⟨σ1, M, a1, a2, a3, a4⟩ := wa_beginAll_s (n := n) hg hd hdd (dp + 2)
  obtain ⟨g1, g2, g3⟩ := mx_gdP_fr a2 hg hP hdd
  have c34 : σ1 34 = σ 34 := funext fun j => a2 34 j (by simp) (by unfold mx_P37; simp)
  have c2 : σ1 2 = σ 2 := funext fun j => a2 2 j (by simp) (by unfold mx_P37; simp)
  have len := mx_wl_len hg (σ 37 5) d
  have W1 := (mx_cf (mx_P37_38 a2) hg hP).2.2.1
  obtain ⟨σ', b1, b2⟩ := co_cheapestBy_15_s (n := n) dp d e hd _ M 0 1000000000001 σ1 (by omega) a3 (by rw [c2]; exact he) g1 g2 g3 a4 (by rw [c34]; exact hf) (fun w hw => ⟨mx_wl_ok g1 g3 (al := σ 37 5) (by rw [W1]; exact hw), by
    have := hk w hw
    unfold mx_kn at this ⊢
    rw [c34]; exact this⟩)
  refine ⟨σ', ?_, mx_fq_tr a2 b2⟩
  rw [co_cheapestBy_e, show wa_beginAll (dp + 5) d σ n = _ from a1, Option.bind_some]
  dsimp only
  rw [c34] at b1
  exact b1
/-- the reference's fold -/
def mx_fs (f : Nat → Int) : Int → List mx_wt → Int
  | v, [] => v
  | v, w :: R => mx_fs f (am_mn v (mx_s1 f w)) R
theorem mo_costBy_65_s (dp : Nat) (W : List mx_wt) (hL : W.length ≤ 386) (hW : mx_LW σ W) (hok : ∀ w ∈ W, mx_wok μ w) (hI : mx_cI μ al (σ 107)) : ∀ (R A : List mx_wt) (v : Int), W = A ++ R →
    mo_costBy_65 (dp + 1) v A.length σ n = some (if 1000000000000 < mx_fs (σ 107) v R then -1 else mx_fs (σ 107) v R, σ, n) := by
  intro R
  induction R with
  | nil =>
    intro A v hA
    have l : W.length = A.length := by rw [hA, List.append_nil]
    rw [mo_costBy_65_e, hW.1, if_neg (by omega), mo_orNone_s, Option.bind_some]
    rfl
  | cons w R ih =>
    intro A v hA
    have l : W.length = A.length + (R.length + 1) := by rw [hA, List.length_append, List.length_cons]
    have lt : (A.length : Int) < (W.length : Int) := by omega
    have a1k : (A.length : Int) < 1000 := by omega
    have hw : W[A.length]? = some w := by rw [hA, List.getElem?_append_right (Nat.le_refl _), Nat.sub_self]; rfl
    have ok := hok w (by rw [hA]; exact List.mem_append_right _ List.mem_cons_self)
    rw [mo_costBy_65_e, hW.1, if_pos lt, mo_sum_s dp A.length σ W w hW hL hw ok hI, Option.bind_some, mx_w_nat a1k]
    dsimp only
    have := ih (A ++ [w]) (am_mn v (mx_s1 (σ 107) w)) (by rw [hA, List.append_assoc]; rfl)
    rw [List.length_append, List.length_singleton] at this
    exact this
/-- the same, or both too much -/
def mx_r2 (x y : Int) : Prop := x = y ∨ (1000000000000 < x ∧ 1000000000000 < y)
theorem mx_r2_mn {a b x y : Int} (h1 : mx_r2 a b) (h2 : mx_r2 x y) : mx_r2 (am_mn a x) (am_mn b y) := by
  unfold mx_r2 am_mn at *
  split <;> split <;> omega
theorem mx_r2_or {x y : Int} (h : mx_r2 x y) : (if 1000000000000 < x then -1 else x) = if 1000000000000 < y then -1 else y := by
  unfold mx_r2 at h
  split <;> split <;> omega
theorem mx_fold_r2 {f f' : Nat → Int} : ∀ (R : List mx_wt) (v v' : Int), mx_r2 v v' → (∀ w ∈ R, mx_r2 (mx_cw1 f w) (mx_s1 f' w)) → mx_r2 (mx_mins f v R) (mx_fs f' v' R) := by
  intro R
  induction R with
  | nil => exact fun v v' h _ => h
  | cons w R ih =>
    intro v v' h hk
    exact ih _ _ (mx_r2_mn h (hk w List.mem_cons_self)) (fun x hx => hk x (List.mem_cons_of_mem _ hx))
theorem mx_w_r2 {f f' : Nat → Int} {w : mx_wt} (ok : mx_wok μ w) (hI : mx_cI μ al f') (e1 : mx_in f w.2.2.1 = mx_in (mx_cap f') w.2.2.1) (e2 : mx_in f w.2.2.2.1 = mx_in (mx_cap f') w.2.2.2.1) : mx_r2 (mx_cw1 f w) (mx_s1 f' w) := by
  have b1 := mx_in_b hI ok.1
  have b2 := mx_in_b hI ok.2.1
  have p := ok.2.2
  have r : ∀ v, mx_in f v = mx_in (mx_cap f') v → mx_in f v = mx_in f' v ∨ (mx_in f v = 1000000000001 ∧ 1000000000000 < mx_in f' v) := fun v hv => by
    rw [hv]
    unfold mx_in mx_cap
    split
    · exact Or.inl rfl
    · split
      · exact Or.inr ⟨rfl, by assumption⟩
      · exact Or.inl rfl
  have r1 := r _ e1
  have r2 := r _ e2
  clear r
  unfold mx_r2 mx_cw1 mx_s1 mx_sum am_mn
  split <;> split <;> omega
end
