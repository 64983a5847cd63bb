/-! COSTS of the reference -/
section
variable {n : Nat} {μ : am_M} {al : Int}
theorem mx_cmpG {a b : Int} : (0 < am_cmp a b) ↔ b < a := by
  unfold am_cmp
  split
  · omega
  · split <;> omega
theorem mx_cmpL {a b : Int} : (am_cmp a b < 0) ↔ a < b := by
  unfold am_cmp
  split
  · omega
  · split <;> omega
theorem mx_cmpE {a b : Int} : (am_cmp a b = 0) ↔ a = b := by
  unfold am_cmp
  split
  · omega
  · split <;> omega
def mx_s1 (c : Nat → Int) (w : mx_wt) : Int := if 1000000000000 < mx_sum c w then 4000000000000 else mx_sum c w
def mx_cI (μ : am_M) (al : Int) (c : Nat → Int) : Prop := ∀ d : Nat, d < 1920 → c d = 4000000000000 ∨ (mx_dd μ d ∧ 1 ≤ c d ∧ c d ≤ 1000000000000 ∧ ∃ w ∈ mx_wl μ al d, mx_sum c w ≤ c d)
def mx_tot (c : Nat → Int) : Nat → Nat
  | 0 => 0
  | k + 1 => mx_tot c k + (c k).toNat
theorem mx_tot_le {c c' : Nat → Int} (h : ∀ j, c' j ≤ c j) : ∀ k, mx_tot c' k ≤ mx_tot c k := by
  intro k
  induction k with
  | zero => exact Nat.le_refl _
  | succ k ih =>
    show mx_tot c' k + (c' k).toNat ≤ mx_tot c k + (c k).toNat
    have := h k
    omega
theorem mx_tot_lt {c c' : Nat → Int} (h : ∀ j, c' j ≤ c j) (d : Nat) (hd : c' d < c d) (h0 : 0 < c d) : ∀ k, d < k → mx_tot c' k < mx_tot c k := by
  intro k
  induction k with
  | zero => intro q; omega
  | succ k ih =>
    intro q
    show mx_tot c' k + (c' k).toNat < mx_tot c k + (c k).toNat
    have hk := h k
    have tl := mx_tot_le h k
    by_cases z : d = k
    · subst z; omega
    · have := ih (by omega)
      omega
theorem mx_in_mono {c c' : Nat → Int} (h : ∀ j, c' j ≤ c j) (v : Int) : mx_in c' v ≤ mx_in c v := by
  unfold mx_in
  split
  · exact Int.le_refl _
  · exact h _
theorem mx_sum_mono {c c' : Nat → Int} (h : ∀ j, c' j ≤ c j) (w : mx_wt) : mx_sum c' w ≤ mx_sum c w := by
  have a := mx_in_mono h w.2.2.1
  have b := mx_in_mono h w.2.2.2.1
  unfold mx_sum
  omega
theorem mx_cI_b {c : Nat → Int} (hI : mx_cI μ al c) (d : Nat) (hd : d < 1920) : 1 ≤ c d ∧ c d ≤ 4000000000000 := by
  rcases hI d hd with q | ⟨-, q1, q2, -⟩ <;> omega
theorem mx_in_b {c : Nat → Int} (hI : mx_cI μ al c) {v : Int} (hv : mx_vk μ v) : 0 ≤ mx_in c v ∧ mx_in c v ≤ 4000000000000 := by
  unfold mx_in
  rcases hv with q | ⟨j, q1, q2, -⟩
  · rw [if_pos q]; decide
  · rw [if_neg (by omega), q1, Int.toNat_natCast]
    have := mx_cI_b hI j q2
    omega
/-- a value is lowered -/
theorem mx_cI_up (hg : mx_gd μ) {c : Nat → Int} (hI : mx_cI μ al c) {d : Nat} (hd : mx_dd μ d) {w : mx_wt} (hw : w ∈ mx_wl μ al d) (hl : mx_s1 c w < c d) {c' : Nat → Int} (h1 : c' d = mx_s1 c w) (h2 : ∀ j, j ≠ d → c' j = c j) :
    mx_cI μ al c' ∧ (∀ j, c' j ≤ c j) ∧ mx_tot c' 1920 < mx_tot c 1920 := by
  have d1 := mx_dd_lt hg hd
  have cb := mx_cI_b hI d d1
  have ok := mx_wl_ok hg hd hw
  have b1 := mx_in_b hI ok.1
  have b2 := mx_in_b hI ok.2.1
  have le : ∀ j, c' j ≤ c j := fun j => by
    by_cases z : j = d
    · subst z; omega
    · rw [h2 j z]; exact Int.le_refl _
  have s : mx_s1 c w = mx_sum c w ∧ mx_sum c w ≤ 1000000000000 ∧ 1 ≤ mx_sum c w := by
    have p := ok.2.2.1
    unfold mx_s1 at hl ⊢
    unfold mx_sum at hl ⊢
    split at hl
    · omega
    · rename_i q
      rw [if_neg q]
      exact ⟨rfl, by omega, by omega⟩
  refine ⟨fun j hj => ?_, le, mx_tot_lt le d (by omega) (by omega) 1920 d1⟩
  by_cases z : j = d
  · subst z
    refine Or.inr ⟨hd, by omega, by omega, w, hw, ?_⟩
    rw [h1, s.1]
    exact mx_sum_mono le w
  · rw [h2 j z]
    rcases hI j hj with q | ⟨q1, q2, q3, v, q4, q5⟩
    · exact Or.inl q
    · exact Or.inr ⟨q1, q2, q3, v, q4, Int.le_trans (mx_sum_mono le v) q5⟩
/-- the solution that the reference finds -/
def mx_cap (c : Nat → Int) (d : Nat) : Int := if 1000000000000 < c d then 1000000000001 else c d
theorem mx_cap_sol (hg : mx_gd μ) {c : Nat → Int} (hI : mx_cI μ al c) (hf : ∀ d, mx_dd μ d → ∀ w ∈ mx_wl μ al d, c d ≤ mx_s1 c w) : mx_sol μ al (mx_cap c) := by
  have cb : ∀ d, d < 1920 → 1 ≤ mx_cap c d ∧ mx_cap c d ≤ 1000000000001 ∧ mx_cap c d ≤ c d := fun d hd => by
    have := mx_cI_b hI d hd
    unfold mx_cap
    split <;> omega
  have same : ∀ v, mx_vk μ v → (mx_in (mx_cap c) v ≤ 1000000000000 ∨ mx_in c v ≤ 1000000000000) → mx_in (mx_cap c) v = mx_in c v := fun v hv hl => by
    unfold mx_in mx_cap at hl ⊢
    rcases hv with q | ⟨j, q1, q2, -⟩
    · rw [if_pos q, if_pos q]
    · have nv : ¬ v = -1 := by omega
      rw [if_neg nv, if_neg nv] at hl ⊢
      split at hl
      · omega
      · rename_i z
        rw [if_neg z]
  have in0 : ∀ v, mx_vk μ v → 0 ≤ mx_in (mx_cap c) v := fun v hv => by
    unfold mx_in
    rcases hv with q | ⟨j, q1, q2, -⟩
    · rw [if_pos q]; exact Int.le_refl _
    · rw [if_neg (by omega), q1, Int.toNat_natCast]
      have := cb j q2
      omega
  intro d hd
  have d1 := mx_dd_lt hg hd
  have b := cb d d1
  have low : ∀ w ∈ mx_wl μ al d, mx_cap c d ≤ mx_sum (mx_cap c) w := fun w hw => by
    have ok := mx_wl_ok hg hd hw
    have f := hf d hd w hw
    have n1 := in0 _ ok.1
    have n2 := in0 _ ok.2.1
    have p := ok.2.2.1
    by_cases z : 1000000000000 < mx_sum (mx_cap c) w
    · omega
    · have e : mx_sum (mx_cap c) w = mx_sum c w := by
        unfold mx_sum at z ⊢
        rw [same _ ok.1 (Or.inl (by omega)), same _ ok.2.1 (Or.inl (by omega))]
      rw [e] at z ⊢
      unfold mx_s1 at f
      rw [if_neg z] at f
      omega
  refine ⟨⟨b.1, b.2.1⟩, low, ?_⟩
  rcases hI d d1 with q | ⟨-, q2, q3, w, q4, q5⟩
  · left
    unfold mx_cap
    rw [if_pos (by omega)]
  · right
    have ok := mx_wl_ok hg hd q4
    have n1 := mx_in_b hI ok.1
    have n2 := mx_in_b hI ok.2.1
    have p := ok.2.2.1
    have e : mx_sum (mx_cap c) w = mx_sum c w := by
      unfold mx_sum at q5 ⊢
      rw [same _ ok.1 (Or.inr (by omega)), same _ ok.2.1 (Or.inr (by omega))]
    refine ⟨w, q4, ?_⟩
    have l := low w q4
    have cd : mx_cap c d = c d := by unfold mx_cap; rw [if_neg (by omega)]
    omega
end
