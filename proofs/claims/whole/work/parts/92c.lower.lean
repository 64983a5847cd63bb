section
variable {n : Nat} {ν : am_M} {c : Nat → Int} {N : Nat}
/-- unknown demands are listed -/
def mx_LN (ν : am_M) (c : Nat → Int) (N : Nat) : Prop := mx_gd ν ∧ mx_Pv ν ∧ mx_sol ν (ν 37 5) c ∧ (ν 33 5 = N ∧ N ≤ 1920) ∧ (∀ k, k < N → ∃ x : Nat, ν 35 k = x ∧ mx_dd ν x ∧ ν 34 x ≠ -1) ∧
  (∀ k, k < N → ∀ x : Nat, ν 35 k = x → ∀ w ∈ mx_wl ν (ν 37 5) x, mx_kn ν w.2.2.1 ∧ mx_kn ν w.2.2.2.1) ∧ ∀ j : Nat, j < 1920 → ν 34 j ≠ -1 → mx_dd ν j
/-- their costs are being lowered -/
def mx_LB (ν : am_M) (c : Nat → Int) (N : Nat) (σ : am_M) : Prop := mx_Fq [34] mx_P37 ν σ ∧ (∀ j : Nat, j < 1920 → ν 34 j = -1 → σ 34 j = -1) ∧ (∀ j : Nat, j < 1920 → ν 34 j ≠ -1 → c j ≤ σ 34 j ∧ σ 34 j ≤ 1000000000001) ∧
  ∀ j : Nat, j < 1920 → ν 34 j ≠ -1 → (∃ k, k < N ∧ ν 35 k = j) ∨ σ 34 j = c j
theorem mx_LB_g (hN : mx_LN ν c N) {σ : am_M} (h : mx_LB ν c N σ) : mx_gd σ ∧ mx_Pv σ ∧ (∀ al d, mx_wl σ al d = mx_wl ν al d) ∧ (∀ d, mx_dd σ d ↔ mx_dd ν d) ∧ σ 37 5 = ν 37 5 := mx_cf (mx_fq_up h.1 rfl) hN.1 hN.2.1
theorem mx_LB_f0 (hN : mx_LN ν c N) {σ : am_M} (h : mx_LB ν c N σ) : mx_f0 (σ 34) := fun j hj => by
  by_cases z : ν 34 j = -1
  · rw [h.2.1 j hj z]; decide
  · have a := h.2.2.1 j hj z
    have b := (hN.2.2.1 j (hN.2.2.2.2.2.2 j hj z)).1.1
    omega
theorem mx_LB_kn (hN : mx_LN ν c N) {σ : am_M} (h : mx_LB ν c N σ) {v : Int} (hv : mx_vk ν v) (hk : mx_kn ν v) : mx_kn σ v ∧ mx_in c v ≤ mx_in (σ 34) v := by
  unfold mx_kn mx_in at *
  rcases hv with q | ⟨j, q1, q2, q3⟩
  · rw [if_pos q, if_pos q]; exact ⟨Or.inl q, Int.le_refl _⟩
  · have nv : ¬ v = -1 := by omega
    rcases hk with z | z
    · exact absurd z nv
    · rw [q1, Int.toNat_natCast] at z
      have a := h.2.2.1 j q2 z
      have b := (hN.2.2.1 j q3).1.1
      rw [if_neg nv, if_neg nv, q1, Int.toNat_natCast]
      exact ⟨Or.inr (by omega), a.1⟩
theorem mx_mn_i {a b x : Int} (h1 : x ≤ a) (h2 : x ≤ b) : x ≤ am_mn a b := by unfold am_mn; split <;> assumption
theorem mx_LB_up {σ σ' : am_M} (h : mx_LB ν c N σ) (hF : mx_Fq [] mx_P37 σ σ') : mx_LB ν c N σ' ∧ σ' 34 = σ 34 ∧ σ' 35 = σ 35 := by
  have c34 : σ' 34 = σ 34 := funext fun j => hF 34 j (by simp) (by unfold mx_P37; simp)
  have c35 : σ' 35 = σ 35 := funext fun j => hF 35 j (by simp) (by unfold mx_P37; simp)
  refine ⟨⟨mx_fq_tr h.1 (mx_fq_up hF rfl), ?_, ?_, ?_⟩, c34, c35⟩ <;> rw [c34]
  · exact h.2.1
  · exact h.2.2.1
  · exact h.2.2.2
/-- the cheapest of a demand is never below its cost; it is its cost once what is cheaper is final -/
theorem mx_mins_c (hN : mx_LN ν c N) {σ : am_M} (h : mx_LB ν c N σ) {x : Nat} (hd : mx_dd ν x) (hk : ∀ w ∈ mx_wl ν (ν 37 5) x, mx_kn ν w.2.2.1 ∧ mx_kn ν w.2.2.2.1) :
    c x ≤ mx_mins (σ 34) 1000000000001 (mx_wl ν (ν 37 5) x) ∧ mx_mins (σ 34) 1000000000001 (mx_wl ν (ν 37 5) x) ≤ 1000000000001 ∧
    ((∀ j : Nat, j < 1920 → ν 34 j ≠ -1 → c j < c x → σ 34 j = c j) → mx_mins (σ 34) 1000000000001 (mx_wl ν (ν 37 5) x) = c x) := by
  have s := hN.2.2.1 x hd
  have p := mx_mins_p (σ 34) (mx_wl ν (ν 37 5) x) 1000000000001
  have low : c x ≤ mx_mins (σ 34) 1000000000001 (mx_wl ν (ν 37 5) x) := by
    rcases p.2.2 with q | ⟨w, w1, w2⟩
    · rw [q]; exact s.1.2
    · have ok := mx_wl_ok hN.1 hd w1
      have a1 := (mx_LB_kn hN h ok.1 (hk w w1).1).2
      have a2 := (mx_LB_kn hN h ok.2.1 (hk w w1).2).2
      have a3 := s.2.1 w w1
      rw [w2]
      refine mx_mn_i ?_ s.1.2
      unfold mx_sum at a3 ⊢
      omega
  refine ⟨low, p.1, fun hf => ?_⟩
  rcases s.2.2 with q | ⟨w, w1, w2⟩
  · have := p.1; omega
  · have ok := mx_wl_ok hN.1 hd w1
    have nn : ∀ v, mx_vk ν v → 0 ≤ mx_in c v := fun v hv => mx_in_lt hv (fun j hj => (hN.2.2.1 j hj).1.1)
    have n1 := nn _ ok.1
    have n2 := nn _ ok.2.1
    have p1 := ok.2.2.1
    have same : ∀ v, mx_vk ν v → mx_kn ν v → mx_in c v < c x → mx_in (σ 34) v = mx_in c v := fun v hv hkv hl => by
      unfold mx_in mx_kn at *
      rcases hv with q | ⟨j, q1, q2, q3⟩
      · rw [if_pos q, if_pos q]
      · have nv : ¬ v = -1 := by omega
        rcases hkv with z | z
        · exact absurd z nv
        · rw [if_neg nv, q1, Int.toNat_natCast] at hl
          rw [q1, Int.toNat_natCast] at z
          rw [if_neg nv, if_neg nv, q1, Int.toNat_natCast]
          exact hf j q2 z hl
    have a := p.2.1 w w1
    have e : mx_sum (σ 34) w = c x := by
      unfold mx_sum at w2 ⊢
      rw [same _ ok.1 (hk w w1).1 (by omega), same _ ok.2.1 (hk w w1).2 (by omega)]
      exact w2
    have m := mx_mn_l (a := mx_sum (σ 34) w) (b := 1000000000001)
    unfold mx_cw1 at a
    omega
theorem co_lowerAll_25_s (hN : mx_LN ν c N) (dp : Nat) (r : Int) : ∀ (t : Nat) (g : Int) (σ : am_M), t ≤ N → mx_LB ν c N σ →
    ∃ (σ' : am_M) (g' : Int), co_lowerAll_25 (dp + 6) g r ((t : Int) - 1) σ n = co_lowerAll_4 (dp + 6) g' (am_w (r + 1)) σ' n ∧ mx_LB ν c N σ' ∧ (∀ j, σ' 34 j ≤ σ 34 j) ∧ ((g' = g ∧ σ' 34 = σ 34) ∨ g' = 1) ∧
      ∀ k, k < t → ∀ x : Nat, ν 35 k = x → (∀ j : Nat, j < 1920 → ν 34 j ≠ -1 → c j < c x → σ 34 j = c j) → σ' 34 x = c x := by
  intro t
  induction t with
  | zero =>
    intro g σ ht h
    exact ⟨σ, g, by rw [co_lowerAll_25_e, if_pos (by decide)], h, fun j => Int.le_refl _, Or.inl ⟨rfl, rfl⟩, fun k hk => absurd hk (Nat.not_lt_zero _)⟩
  | succ t ih =>
    intro g σ ht h
    obtain ⟨x, x1, x2, x3⟩ := hN.2.2.2.2.1 t (by omega)
    have xl := mx_dd_lt hN.1 x2
    have N19 := hN.2.2.2.1.2
    have I : (0 : Int) ≤ (t : Int) ∧ (t : Int) < 1920 := ⟨by omega, by omega⟩
    have X : (0 : Int) ≤ (x : Int) ∧ (x : Int) < 1920 := ⟨by omega, by omega⟩
    obtain ⟨g1, g2, g3, g4, g5⟩ := mx_LB_g hN h
    have hk := hN.2.2.2.2.2.1 t (by omega) x x1
    have e35 : σ 35 = ν 35 := funext fun j => h.1 35 j (by decide) (by unfold mx_P37; simp)
    obtain ⟨σ1, a1, a2⟩ := co_cheapestOf_s (n := n) dp x g1 g2 ((g4 x).mpr x2) (mx_LB_f0 hN h) (fun w hw => by
      rw [g3, g5] at hw
      have ok := mx_wl_ok hN.1 x2 hw
      exact ⟨(mx_LB_kn hN h ok.1 (hk w hw).1).1, (mx_LB_kn hN h ok.2.1 (hk w hw).2).1⟩)
    rw [g3, g5] at a1
    obtain ⟨u1, u2, u3⟩ := mx_LB_up h a2
    obtain ⟨m1, m2, m3⟩ := mx_mins_c hN h x2 hk
    obtain ⟨m, hm⟩ : ∃ m, m = mx_mins (σ 34) 1000000000001 (mx_wl ν (ν 37 5) x) := ⟨_, rfl⟩
    rw [← hm] at a1 m1 m2 m3
    have wt : am_w ((t : Int) + -1) = (t : Int) - 1 := by rw [mx_w_id (by omega) (by omega)]; rfl
    have tt : (((t + 1 : Nat) : Int) - 1) = t := by omega
    rw [co_lowerAll_25_e, tt, if_neg (by omega), ix_35 I.1 I.2, e35, Int.toNat_natCast, x1, a1, Option.bind_some]
    dsimp only
    simp only [u2, u3, e35, x1, ix_35 I.1 I.2, ix_34 X.1 X.2, mx_m, Int.toNat_natCast, wt]
    clear wt tt
    -- what is cheaper stays final
    have stay : ∀ τ : am_M, mx_LB ν c N τ → (∀ j, τ 34 j ≤ σ 34 j) → ∀ y : Nat, (∀ j : Nat, j < 1920 → ν 34 j ≠ -1 → c j < c y → σ 34 j = c j) → ∀ j : Nat, j < 1920 → ν 34 j ≠ -1 → c j < c y → τ 34 j = c j := fun τ hτ hle y hy j j1 j2 j3 => by
      have a := hy j j1 j2 j3
      have b := (hτ.2.2.1 j j1 j2).1
      have d := hle j
      omega
    by_cases z : m < σ 34 x
    · rw [if_pos (mx_cmpL.mpr z)]
      obtain ⟨σ2, e2⟩ : ∃ σ2, σ2 = am_wr σ1 34 x m := ⟨_, rfl⟩
      have f34 : ∀ j, σ2 34 j = if j = x then m else σ 34 j := fun j => by
        rw [e2]
        by_cases y : j = x
        · rw [if_pos y, y, mx_wr_at]
        · rw [if_neg y, mx_wr_off y, u2]
      have le : ∀ j, σ2 34 j ≤ σ 34 j := fun j => by
        rw [f34]
        split
        · rename_i y; rw [y]; omega
        · exact Int.le_refl _
      have L2 : mx_LB ν c N σ2 := by
        refine ⟨by rw [e2]; exact mx_fq_wr u1.1 rfl, fun j j1 j2 => ?_, fun j j1 j2 => ?_, fun j j1 j2 => ?_⟩
        · rw [f34]
          by_cases y : j = x
          · rw [y] at j2; exact absurd j2 x3
          · rw [if_neg y]; exact h.2.1 j j1 j2
        · rw [f34]
          by_cases y : j = x
          · rw [if_pos y, y]; exact ⟨m1, m2⟩
          · rw [if_neg y]; exact h.2.2.1 j j1 j2
        · by_cases y : j = x
          · exact Or.inl ⟨t, by omega, by rw [x1, y]⟩
          · rw [f34, if_neg y]; exact h.2.2.2 j j1 j2
      rw [← e2]
      obtain ⟨σ', g', b1, b2, b3, b4, b5⟩ := ih 1 σ2 (by omega) L2
      refine ⟨σ', g', b1, b2, fun j => Int.le_trans (b3 j) (le j), Or.inr ?_, fun k hk2 y hy hf => ?_⟩
      · rcases b4 with ⟨q, -⟩ | q <;> exact q
      · by_cases q : k = t
        · subst q
          have yx : y = x := by omega
          subst yx
          have v := m3 hf
          have a := b3 y
          rw [f34, if_pos rfl] at a
          have b := (b2.2.2.1 y xl x3).1
          omega
        · exact b5 k (by omega) y hy (stay σ2 L2 le y hf)
    · rw [if_neg (fun a => z (mx_cmpL.mp a))]
      have le1 : ∀ j, σ1 34 j ≤ σ 34 j := fun j => by rw [u2]; exact Int.le_refl _
      obtain ⟨σ', g', b1, b2, b3, b4, b5⟩ := ih g σ1 (by omega) u1
      rw [u2] at b3 b4
      refine ⟨σ', g', b1, b2, b3, b4, fun k hk2 y hy hf => ?_⟩
      by_cases q : k = t
      · subst q
        have yx : y = x := by omega
        subst yx
        have v := m3 hf
        have a := b3 y
        have b := (b2.2.2.1 y xl x3).1
        omega
      · exact b5 k (by omega) y hy (stay σ1 u1 le1 y hf)
end
