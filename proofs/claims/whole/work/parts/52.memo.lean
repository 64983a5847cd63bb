/-! expressions and groups: the reference's rows against a model (K kinds, P own, X and Y inputs, H homes, T what group a number means) -/
def mx_up (f : Nat → Int) (i : Nat) (v : Int) : Nat → Int := fun j => if j = i then v else f j
theorem mx_up_at {f : Nat → Int} {i : Nat} {v : Int} : mx_up f i v i = v := if_pos rfl
theorem mx_up_ne {f : Nat → Int} {i j : Nat} {v : Int} (h : j ≠ i) : mx_up f i v j = f j := if_neg h
theorem mx_wr_up {σ : am_M} {a k : Nat} {v : Int} : am_wr σ a k v a = mx_up (σ a) k v := funext fun j => mx_wr_if
def mx_Ri (g : Int) (T into : Nat → Int) : Prop := ∀ i : Nat, (i : Int) < g → 0 ≤ into i ∧ into i ≤ i ∧ (into i = i → T i = i) ∧ T (into i).toNat = T i
theorem mx_Ri_T {g : Int} {T into : Nat → Int} (h : mx_Ri g T into) : ∀ i : Nat, (i : Int) < g → 0 ≤ T i ∧ T i ≤ i ∧ T (T i).toNat = T i := by
  intro i
  induction i using Nat.strongRecOn with
  | _ i ih =>
    intro hi
    obtain ⟨h1, h2, h3, h4⟩ := h i hi
    by_cases e : into i = i
    · rw [h3 e]
      refine ⟨by omega, by omega, ?_⟩
      rw [Int.toNat_natCast]; exact h3 e
    · obtain ⟨a, b, c⟩ := ih (into i).toNat (by omega) (by omega)
      rw [h4] at a b c
      exact ⟨a, by omega, c⟩
theorem mo_root_2_s (d : Nat) (σ : am_M) (n : Nat) {g : Int} {T : Nat → Int} (h : mx_Ri g T (σ 94)) (hg : g ≤ 144) : ∀ i : Nat, (i : Int) < g → mo_root_2 d i σ n = some (T i, σ, n) := by
  intro i
  induction i using Nat.strongRecOn with
  | _ i ih =>
    intro hi
    obtain ⟨h1, h2, h3, h4⟩ := h i hi
    rw [mo_root_2_e, ix_94 (by omega) (by omega), Int.toNat_natCast]
    by_cases e : σ 94 i = i
    · rw [if_pos e, h3 e]
    · rw [if_neg e, ix_94 (by omega) (by omega)]
      have := ih (σ 94 i).toNat (by omega) (by omega)
      rw [Int.toNat_of_nonneg h1, h4] at this
      exact this
theorem mo_root_s (d : Nat) (σ : am_M) (n : Nat) {g : Int} {T : Nat → Int} (h : mx_Ri g T (σ 94)) (hg : g ≤ 144) (v : Int) (h0 : 0 ≤ v) (h1 : v < g) : mo_root (d + 1) v σ n = some (T v.toNat, σ, n) := by
  rw [mo_root_e]
  have := mo_root_2_s d σ n h hg v.toNat (by omega)
  rwa [Int.toNat_of_nonneg h0] at this
def mx_re (g : Int) (K P X Y H T k p ex ey hin gone : Nat → Int) (e : Nat) : Prop := k e = K e ∧ p e = P e ∧ gone e = (if H e = -1 then 1 else 0) ∧
  (H e ≠ -1 → (0 ≤ hin e ∧ hin e < g ∧ T (hin e).toNat = H e) ∧ (K e ≠ 1 → 0 ≤ ex e ∧ ex e < g ∧ T (ex e).toNat = X e) ∧ (K e = 1 → X e = -1) ∧ (5 ≤ K e → 0 ≤ ey e ∧ ey e < g ∧ T (ey e).toNat = Y e) ∧ (K e < 5 → Y e = -1))
def mx_Re (m g : Int) (K P X Y H T k p ex ey hin gone : Nat → Int) : Prop := ∀ e : Nat, (e : Int) < m → mx_re g K P X Y H T k p ex ey hin gone e
def mx_R (m g : Int) (K P X Y H T : Nat → Int) (σ : am_M) : Prop :=
  mx_Re m g K P X Y H T (σ 89) (σ 90) (σ 91) (σ 92) (σ 93) (σ 95) ∧ mx_Ri g T (σ 94) ∧ σ 82 1 = m ∧ σ 82 2 = g ∧ 0 ≤ g ∧ g ≤ m ∧ m ≤ 143
theorem mx_R_fr {m g : Int} {K P X Y H T : Nat → Int} {σ σ' : am_M} (h : mx_R m g K P X Y H T σ) (h1 : σ' 89 = σ 89) (h2 : σ' 90 = σ 90) (h3 : σ' 91 = σ 91) (h4 : σ' 92 = σ 92) (h5 : σ' 93 = σ 93) (h6 : σ' 94 = σ 94) (h7 : σ' 95 = σ 95) (h8 : σ' 82 1 = σ 82 1) (h9 : σ' 82 2 = σ 82 2) : mx_R m g K P X Y H T σ' := by
  unfold mx_R
  rw [h1, h2, h3, h4, h5, h6, h7, h8, h9]
  exact h
section
variable {m g : Int} {K P X Y H T : Nat → Int} {σ : am_M}
theorem mo_root_r (h : mx_R m g K P X Y H T σ) (d : Nat) (n : Nat) (v : Int) (h0 : 0 ≤ v) (h1 : v < g) : mo_root (d + 1) v σ n = some (T v.toNat, σ, n) := by
  obtain ⟨-, hi, -, -, -, h2, h3⟩ := h
  exact mo_root_s d σ n hi (by omega) v h0 h1
def mx_xk (k x : Int) (T : Nat → Int) : Int := if k = 1 then -1 else T x.toNat
def mx_yk (k y : Int) (T : Nat → Int) : Int := if k < 5 then -1 else T y.toNat
theorem mo_alike_3_s (h : mx_R m g K P X Y H T σ) (d : Nat) (n : Nat) (k p x y : Int) (hx : k ≠ 1 → 0 ≤ x ∧ x < g) (hy : 5 ≤ k → 0 ≤ y ∧ y < g) : ∀ (t e : Nat), (e : Int) + t = m → mo_alike_3 (d + 1) k p x y e σ n = some (mx_fi (mx_al K P X Y H k p (mx_xk k x T) (mx_yk k y T)) t e, σ, n) := by
  have hm := h.2.2.1
  have hm3 : m ≤ 143 := h.2.2.2.2.2.2
  intro t
  induction t with
  | zero => intro e he; rw [mo_alike_3_e, if_neg (by omega)]; rfl
  | succ t ih =>
    intro e he
    have ih' := ih (e + 1) (by omega)
    rw [Int.natCast_add, Int.natCast_one] at ih'
    obtain ⟨e1, e2, e3, e4⟩ := h.1 e (by omega)
    rw [mo_alike_3_e, if_pos (by omega)]
    simp (disch := omega) only [ix_95, ix_89, ix_90, ix_91, Int.toNat_natCast, mx_w_id, ih', mo_alike_74_e, ix_92]
    rw [mx_fi_S]
    have hf : ¬ (K e = k ∧ P e = p ∧ X e = mx_xk k x T ∧ Y e = mx_yk k y T ∧ H e ≠ -1) → mx_al K P X Y H k p (mx_xk k x T) (mx_yk k y T) e = false := fun q => decide_eq_false q
    rw [e1, e2, e3]
    by_cases h5 : H e = -1
    · rw [if_neg (by rw [if_pos h5]; decide), hf fun q => q.2.2.2.2 h5]; rfl
    rw [if_neg h5, if_pos rfl]
    obtain ⟨⟨i1, i2, i3⟩, x1, x2, y1, y2⟩ := e4 h5
    by_cases h1 : K e = k
    · rw [if_pos h1]
      subst h1
      by_cases h2 : P e = p
      · rw [if_pos h2]
        have tail : (if K e < 5 then some ((e : Int), σ, n) else (mo_root (d + 1) (σ 92 e) σ n).bind fun q1 => (mo_root (d + 1) y q1.2.1 q1.2.2).bind fun q2 => if q1.1 = q2.1 then some ((e : Int), q2.2.1, q2.2.2) else mo_alike_3 (d + 1) (K e) p x y (e + 1) q2.2.1 q2.2.2) = (if Y e = mx_yk (K e) y T then some ((e : Int), σ, n) else mo_alike_3 (d + 1) (K e) p x y (e + 1) σ n) := by
          by_cases h6 : K e < 5
          · rw [if_pos h6, if_pos (by rw [y2 h6]; unfold mx_yk; rw [if_pos h6])]
          · rw [if_neg h6]
            have := y1 (by omega)
            rw [mo_root_r h d n _ this.1 this.2.1, Option.bind_some, mo_root_r h d n _ (hy (by omega)).1 (hy (by omega)).2, Option.bind_some, this.2.2]
            unfold mx_yk
            rw [if_neg h6]
        have fin : (if Y e = mx_yk (K e) y T then some ((e : Int), σ, n) else some (mx_fi (mx_al K P X Y H (K e) p (mx_xk (K e) x T) (mx_yk (K e) y T)) t (e + 1), σ, n)) = (if X e = mx_xk (K e) x T ∧ Y e = mx_yk (K e) y T then some ((e : Int), σ, n) else some (mx_fi (mx_al K P X Y H (K e) p (mx_xk (K e) x T) (mx_yk (K e) y T)) t (e + 1), σ, n)) ∨ X e ≠ mx_xk (K e) x T := by
          by_cases h7 : X e = mx_xk (K e) x T
          · left; simp [h7]
          · right; exact h7
        have res : ∀ b : Bool, (b = true ↔ X e = mx_xk (K e) x T ∧ Y e = mx_yk (K e) y T) → mx_al K P X Y H (K e) p (mx_xk (K e) x T) (mx_yk (K e) y T) e = b := by
          intro b hb
          cases b with
          | true => exact decide_eq_true ⟨rfl, h2, (hb.mp rfl).1, (hb.mp rfl).2, h5⟩
          | false => exact hf fun q => by have := hb.mpr ⟨q.2.2.1, q.2.2.2.1⟩; cases this
        by_cases h6 : K e = 1
        · have hX : X e = mx_xk (K e) x T := by rw [x2 h6]; unfold mx_xk; rw [if_pos h6]
          rw [if_pos h6]
          rw [tail, ih']
          by_cases h8 : Y e = mx_yk (K e) y T
          · rw [if_pos h8, res true (by simp [hX, h8])]; rfl
          · rw [if_neg h8, res false (by simp [h8])]; rfl
        · rw [if_neg h6]
          have hx1 := x1 h6
          rw [mo_root_r h d n _ hx1.1 hx1.2.1, Option.bind_some, mo_root_r h d n _ (hx h6).1 (hx h6).2, Option.bind_some, hx1.2.2]
          by_cases h7 : X e = T x.toNat
          · have hX : X e = mx_xk (K e) x T := by rw [h7]; unfold mx_xk; rw [if_neg h6]
            rw [if_pos h7]
            rw [tail, ih']
            by_cases h8 : Y e = mx_yk (K e) y T
            · rw [if_pos h8, res true (by simp [hX, h8])]; rfl
            · rw [if_neg h8, res false (by simp [h8])]; rfl
          · rw [if_neg h7, res false (by
              constructor
              · intro q; cases q
              · intro q; exact absurd (by rw [q.1]; unfold mx_xk; rw [if_neg h6]) h7)]
            exact ih'
      · rw [if_neg h2, hf fun q => h2 q.2.1]; rfl
    · rw [if_neg h1, hf fun q => h1 q.1]; rfl
theorem mo_alike_s (h : mx_R m g K P X Y H T σ) (d : Nat) (n : Nat) (k p x y : Int) (hx : k ≠ 1 → 0 ≤ x ∧ x < g) (hy : 5 ≤ k → 0 ≤ y ∧ y < g) : mo_alike (d + 2) k p x y σ n = some (mx_fi (mx_al K P X Y H k p (mx_xk k x T) (mx_yk k y T)) m.toNat 0, σ, n) := by
  rw [mo_alike_e]
  have := h.2.2.2.2
  exact mo_alike_3_s h d n k p x y hx hy m.toNat 0 (by omega)
end
