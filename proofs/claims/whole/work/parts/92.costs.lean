/-! COSTS of the class -/
abbrev mx_P38 : List (Nat × Nat) := (33, 5) :: mx_P37
section
variable {n : Nat} {μ σ : am_M}
theorem mx_cf (F : mx_Fq [34, 35, 36] mx_P38 μ σ) (hg : mx_gd μ) (hP : mx_Pv μ) : mx_gd σ ∧ mx_Pv σ ∧ (∀ al d, mx_wl σ al d = mx_wl μ al d) ∧ (∀ d, mx_dd σ d ↔ mx_dd μ d) ∧ σ 37 5 = μ 37 5 := by
  have c : ∀ i, i < 33 ∨ 37 < i → σ i = μ i := fun i q => funext fun j => F i j (by simp only [List.mem_cons, List.not_mem_nil, or_false, not_or]; omega) (by unfold mx_P38 mx_P37; simp only [List.mem_cons, List.not_mem_nil, or_false, Prod.mk.injEq]; omega)
  have e : mx_cR σ = mx_cR μ := mx_cR_fr F rfl
  have p1 : ∀ e' i, mx_pe σ e' i = mx_pe μ e' i := fun x i => by unfold mx_pe; rw [e, c 5 (by decide), c 7 (by decide), c 8 (by decide), c 9 (by decide)]
  have p2 : ∀ g i, mx_pg σ g i = mx_pg μ g i := fun x i => by unfold mx_pg; rw [e]
  refine ⟨mx_gd_fr hg (fun i j a b _ => by rw [c i (by omega)]), ⟨fun x hx hH i hi => ?_, fun g hg' hT => ?_⟩, fun al d => mx_wl_fr F rfl al d, fun d => ?_, F 37 5 (by decide) (by unfold mx_P38 mx_P37; decide)⟩
  · rw [c 2 (by decide)] at hx
    rw [c 9 (by decide)] at hH
    rw [c 5 (by decide)] at hi
    rw [c 41 (by decide), p1]; exact hP.1 x hx hH i hi
  · rw [c 2 (by decide)] at hg'
    rw [c 10 (by decide)] at hT
    rw [c 42 (by decide), p2, p2]; exact hP.2 g hg' hT
  · unfold mx_dd
    rw [c 2 (by decide), c 10 (by decide)]
theorem mx_P37_38 {σ' : am_M} (h : mx_Fq [] mx_P37 σ σ') : mx_Fq [34, 35, 36] mx_P38 σ σ' := mx_fq_up h rfl
theorem mx_wm_len {al g o p : Int} (hk : ∀ e : Nat, (e : Int) < μ 2 3 → mx_kd (μ 5 e)) : ∀ (t a : Nat), (a : Int) + t ≤ μ 2 3 → (mx_wm μ al g o p t a).length ≤ 6 * t := by
  intro t
  induction t with
  | zero => intro a _; exact Nat.zero_le _
  | succ t ih =>
    intro a ha
    have mS : mx_wm μ al g o p (t + 1) a = (if μ 9 a = g then mx_we μ al o p a 0 else []) ++ mx_wm μ al g o p t (a + 1) := rfl
    have l1 := mx_we_len al o p a μ 0
    have l2 := mx_slots6 (hk a (by omega))
    have l3 := ih (a + 1) (by omega)
    rw [mS, List.length_append]
    split
    · omega
    · rw [List.length_nil]; omega
theorem mx_wl_len (hg : mx_gd μ) (al : Int) (d : Nat) : (mx_wl μ al d).length ≤ 386 := by
  have h64 := hg.2.1
  have w2 := hg.1.2.1
  unfold mx_wl
  rw [List.length_append, List.length_append]
  have l1 := mx_wm_len (μ := μ) (al := al) (g := (d / 30 : Nat)) (o := ((d % 30 / 6 : Nat) : Int) - 1) (p := ((d % 6 : Nat) : Int) - 1) (fun e he => (hg.1.2.2.2.1 e he).1) (μ 2 3).toNat 0 (by omega)
  have l2 : (mx_wst μ al (d / 30 : Nat) (((d % 30 / 6 : Nat) : Int) - 1) (((d % 6 : Nat) : Int) - 1)).length ≤ 1 := by unfold mx_wst; split; exact Nat.le_refl _; exact Nat.zero_le _
  have l3 : (mx_wsp μ al (d / 30 : Nat) (((d % 30 / 6 : Nat) : Int) - 1) (((d % 6 : Nat) : Int) - 1)).length ≤ 1 := by unfold mx_wsp; split; exact Nat.le_refl _; exact Nat.zero_le _
  omega
def mx_f0 (f : Nat → Int) : Prop := ∀ j : Nat, j < 1920 → -1 ≤ f j ∧ f j ≤ 1000000000001
def mx_cw1 (f : Nat → Int) (w : mx_wt) : Int := am_mn (mx_sum f w) 1000000000001
theorem mx_in_k {v : Int} (hv : mx_vk μ v) (hk : mx_kn σ v) (hf : mx_f0 (σ 34)) : 0 ≤ mx_in (σ 34) v ∧ mx_in (σ 34) v ≤ 1000000000001 := by
  unfold mx_in
  rcases hv with q | ⟨j, q1, q2, -⟩
  · rw [if_pos q]; decide
  · have nv : ¬ v = -1 := by omega
    rcases hk with z | z
    · exact absurd z nv
    · rw [q1, Int.toNat_natCast] at z
      have := hf j q2
      rw [if_neg nv, q1, Int.toNat_natCast]
      omega
theorem co_inputCost_s (d : Nat) {v : Int} (hv : mx_vk μ v) (hk : mx_kn σ v) : co_inputCost (d + 1) v σ n = some (mx_in (σ 34) v, σ, n) := by
  rw [co_inputCost_e]
  unfold mx_in
  rcases hv with q | ⟨j, q1, q2, -⟩
  · rw [if_pos q, if_pos q]
  · have nv : ¬ v = -1 := by omega
    have J : (0 : Int) ≤ (j : Int) ∧ (j : Int) < 1920 := ⟨by omega, by omega⟩
    rcases hk with z | z
    · exact absurd z nv
    · rw [if_neg nv, if_neg nv, q1, ix_34 J.1 J.2, ix_34 J.1 J.2]
      rw [q1] at z
      rw [if_neg (fun a => z (mx_cmpE.mp a))]
theorem co_costOfWay_s (d : Nat) {w : mx_wt} (ht : mx_tl5 w σ) (ok : mx_wok μ w) (k1 : mx_kn σ w.2.2.1) (k2 : mx_kn σ w.2.2.2.1) (hf : mx_f0 (σ 34)) : co_costOfWay (d + 2) σ n = some (mx_cw1 (σ 34) w, σ, n) := by
  obtain ⟨-, t2, t3, -, t5⟩ := ht
  have b1 := mx_in_k ok.1 k1 hf
  have b2 := mx_in_k ok.2.1 k2 hf
  have p := ok.2.2
  rw [co_costOfWay_e, t2, co_inputCost_s d ok.1 k1, Option.bind_some]
  dsimp only
  rw [t3, co_inputCost_s d ok.2.1 k2, Option.bind_some, t5]
  dsimp only
  unfold mx_cw1 mx_sum
  rw [mx_x_id (z := w.2.2.2.2.2 + mx_in (σ 34) w.2.2.1) (by omega) (by omega), mx_x_id (by omega) (by omega)]
/-- the cheapest of some ways -/
def mx_mins (f : Nat → Int) : Int → List mx_wt → Int
  | v, [] => v
  | v, w :: R => mx_mins f (am_mn v (mx_cw1 f w)) R
theorem mx_mins_p (f : Nat → Int) : ∀ (R : List mx_wt) (v : Int), mx_mins f v R ≤ v ∧ (∀ w ∈ R, mx_mins f v R ≤ mx_cw1 f w) ∧ (mx_mins f v R = v ∨ ∃ w ∈ R, mx_mins f v R = mx_cw1 f w) := by
  intro R
  induction R with
  | nil => exact fun v => ⟨Int.le_refl _, fun w h => (by cases h), Or.inl rfl⟩
  | cons w R ih =>
    intro v
    obtain ⟨i1, i2, i3⟩ := ih (am_mn v (mx_cw1 f w))
    have m := mx_mn_l (a := v) (b := mx_cw1 f w)
    have e : mx_mins f v (w :: R) = mx_mins f (am_mn v (mx_cw1 f w)) R := rfl
    rw [e]
    refine ⟨Int.le_trans i1 m.1, fun x hx => ?_, ?_⟩
    · rcases List.mem_cons.mp hx with q | q
      · rw [q]; exact Int.le_trans i1 m.2
      · exact i2 x q
    · rcases i3 with q | ⟨x, x1, x2⟩
      · rw [q]
        unfold am_mn
        split
        · exact Or.inr ⟨w, List.mem_cons_self, rfl⟩
        · exact Or.inl rfl
      · exact Or.inr ⟨x, List.mem_cons_of_mem _ x1, x2⟩
theorem co_cheapestOf_15_s (dp d : Nat) (hd : d < 1920) : ∀ (R : List mx_wt) (M i : Nat) (v : Int) (σ : am_M), i + R.length < 1000 → M < 900 → mx_gd σ → mx_Pv σ → mx_dd σ d → mx_ws σ d R M → mx_f0 (σ 34) → (∀ w ∈ R, mx_wok σ w ∧ mx_kn σ w.2.2.1 ∧ mx_kn σ w.2.2.2.1) →
    ∃ σ' : am_M, co_cheapestOf_15 (dp + 5) v i σ n = some (mx_mins (σ 34) v R, σ', n) ∧ mx_Fq [] mx_P37 σ σ' := by
  intro R
  induction R with
  | nil =>
    intro M i v σ hi hM hg hP hdd hw hf hk
    have i1k : (i : Int) < 1000 := by rw [List.length_nil] at hi; omega
    rcases wa_advance_s (n := n) hg hP hd hdd hM hw dp with ⟨-, σ', p1, p2⟩ | ⟨w, R', σ', M', q, -⟩
    · refine ⟨σ', ?_, p2⟩
      rw [co_cheapestOf_15_e, if_pos i1k, p1, Option.bind_some]
      rfl
    · cases q
  | cons w R ih =>
    intro M i v σ hi hM hg hP hdd hw hf hk
    have i1k : (i : Int) < 1000 := by rw [List.length_cons] at hi; omega
    rcases wa_advance_s (n := n) hg hP hd hdd hM hw dp with ⟨q, -⟩ | ⟨w', R', σ1, M', q, p1, p2, p3, p4, p5, -⟩
    · cases q
    · cases q
      have c34 : σ1 34 = σ 34 := funext fun j => p2 34 j (by simp) (by unfold mx_P37; simp)
      obtain ⟨g1, g2, g3⟩ := mx_gdP_fr p2 hg hP hdd
      have dd1 := (mx_cf (mx_P37_38 p2) hg hP).2.2.2.1
      have vk : ∀ v, mx_vk σ v → mx_vk σ1 v := fun v h => by
        rcases h with h | ⟨j, h1, h2, h3⟩
        · exact Or.inl h
        · exact Or.inr ⟨j, h1, h2, (dd1 j).mpr h3⟩
      have kn : ∀ v, mx_kn σ v → mx_kn σ1 v := fun v h => by unfold mx_kn at h ⊢; rw [c34]; exact h
      obtain ⟨⟨o1, o2, o3⟩, k1, k2⟩ := hk w List.mem_cons_self
      have cw := co_costOfWay_s (n := n) (dp + 3) p5 ⟨vk _ o1, vk _ o2, o3⟩ (kn _ k1) (kn _ k2) (by rw [c34]; exact hf)
      obtain ⟨σ', e1, e2⟩ := ih M' (i + 1) (am_mn v (mx_cw1 (σ 34) w)) σ1 (by rw [List.length_cons] at hi; omega) (by omega) g1 g2 g3 p3 (by rw [c34]; exact hf) (fun x hx => by
        obtain ⟨⟨x1, x2, x3⟩, x4, x5⟩ := hk x (List.mem_cons_of_mem _ hx)
        exact ⟨⟨vk _ x1, vk _ x2, x3⟩, kn _ x4, kn _ x5⟩)
      refine ⟨σ', ?_, mx_fq_tr p2 e2⟩
      rw [co_cheapestOf_15_e, if_pos i1k, p1, Option.bind_some]
      dsimp only
      rw [if_neg (by decide), show co_costOfWay (dp + 5) σ1 n = _ from cw, Option.bind_some, mx_w_nat i1k, c34]
      dsimp only
      rw [e1, c34]
      rfl
/-- cheapestOf() -/
theorem co_cheapestOf_s (dp d : Nat) (hg : mx_gd σ) (hP : mx_Pv σ) (hdd : mx_dd σ d) (hf : mx_f0 (σ 34)) (hk : ∀ w ∈ mx_wl σ (σ 37 5) d, mx_kn σ w.2.2.1 ∧ mx_kn σ w.2.2.2.1) :
    ∃ σ' : am_M, co_cheapestOf (dp + 6) d σ n = some (mx_mins (σ 34) 1000000000001 (mx_wl σ (σ 37 5) d), σ', n) ∧ mx_Fq [] mx_P37 σ σ' := by
  have hd := mx_dd_lt hg hdd
  obtain ⟨σ1, M, a1, a2, a3, a4⟩ := wa_beginAll_s (n := n) hg hd hdd (dp + 2)
  obtain ⟨g1, g2, g3⟩ := mx_gdP_fr a2 hg hP hdd
  have c34 : σ1 34 = σ 34 := funext fun j => a2 34 j (by simp) (by unfold mx_P37; simp)
  have len := mx_wl_len hg (σ 37 5) d
  have W1 := (mx_cf (mx_P37_38 a2) hg hP).2.2.1
  obtain ⟨σ', b1, b2⟩ := co_cheapestOf_15_s (n := n) dp d hd _ M 0 1000000000001 σ1 (by omega) a3 g1 g2 g3 a4 (by rw [c34]; exact hf) (fun w hw => ⟨mx_wl_ok g1 g3 (al := σ 37 5) (by rw [W1]; exact hw), by
    have := hk w hw
    unfold mx_kn at this ⊢
    rw [c34]; exact this⟩)
  refine ⟨σ', ?_, mx_fq_tr a2 b2⟩
  rw [co_cheapestOf_e, show wa_beginAll (dp + 5) d σ n = _ from a1, Option.bind_some]
  dsimp only
  rw [c34] at b1
  exact b1
end
