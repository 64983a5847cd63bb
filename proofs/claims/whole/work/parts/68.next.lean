/-! bits one by one; the next member-/
theorem mx_and_2 (x y : Nat) : x &&& y = (x % 2 &&& y % 2) + 2 * (x / 2 &&& y / 2) := by
  have h1 : (x &&& y) % 2 ^ 1 = x % 2 ^ 1 &&& y % 2 ^ 1 := Nat.and_mod_two_pow
  have h2 : (x &&& y) / 2 ^ 1 = x / 2 ^ 1 &&& y / 2 ^ 1 := Nat.and_div_two_pow
  have h3 := Nat.div_add_mod (x &&& y) 2
  have e : (2 : Nat) ^ 1 = 2 := rfl
  rw [e] at h1 h2
  rw [← h3, h1, h2]
  omega
theorem mx_and_co : ∀ (n w : Nat), w < 2 ^ n → w &&& (2 ^ n - 1 - w) = 0 := by
  intro n
  induction n with
  | zero => intro w hw; rw [show w = 0 by omega]; exact Nat.zero_and _
  | succ n ih =>
    intro w hw
    have e : 2 ^ (n + 1) = 2 * 2 ^ n := by rw [Nat.pow_succ]; omega
    rw [e] at hw ⊢
    have i := ih (w / 2) (by omega)
    rw [mx_and_2, show (2 * 2 ^ n - 1 - w) / 2 = 2 ^ n - 1 - w / 2 by omega, i]
    have : w % 2 = 0 ∨ w % 2 = 1 := by omega
    rcases this with q | q
    · rw [q, Nat.zero_and]
    · rw [show (2 * 2 ^ n - 1 - w) % 2 = 0 by omega, Nat.and_zero]
def mx_tz : Nat → Nat → Nat
  | 0, _ => 0
  | n + 1, u => if u % 2 = 1 then 0 else mx_tz n (u / 2) + 1
theorem mx_and_neg : ∀ (n u : Nat), 0 < u → u < 2 ^ n → u &&& (2 ^ n - u) = 2 ^ mx_tz n u ∧ mx_tz n u < n ∧ u / 2 ^ mx_tz n u % 2 = 1 ∧ ∀ j : Nat, j < mx_tz n u → u / 2 ^ j % 2 = 0 := by
  intro n
  induction n with
  | zero => intro u h0 h1; omega
  | succ n ih =>
    intro u h0 hu
    have e : 2 ^ (n + 1) = 2 * 2 ^ n := by rw [Nat.pow_succ]; omega
    rw [e] at hu ⊢
    have q : u % 2 = 0 ∨ u % 2 = 1 := by omega
    rcases q with q | q
    · obtain ⟨i1, i2, i3, i4⟩ := ih (u / 2) (by omega) (by omega)
      have ht : mx_tz (n + 1) u = mx_tz n (u / 2) + 1 := if_neg (by omega)
      rw [ht, mx_and_2, q, Nat.zero_and, show (2 * 2 ^ n - u) / 2 = 2 ^ n - u / 2 by omega, i1]
      have dv : ∀ j : Nat, u / 2 ^ (j + 1) = u / 2 / 2 ^ j := fun j => by rw [Nat.pow_succ, Nat.mul_comm, Nat.div_div_eq_div_mul]
      refine ⟨by rw [Nat.pow_succ]; omega, by omega, by rw [dv]; exact i3, fun j hj => ?_⟩
      cases j with
      | zero => rw [Nat.pow_zero, Nat.div_one]; exact q
      | succ j => rw [dv]; exact i4 j (by omega)
    · have ht : mx_tz (n + 1) u = 0 := if_pos q
      rw [ht, mx_and_2, q, show (2 * 2 ^ n - u) % 2 = 1 by omega, show (2 * 2 ^ n - u) / 2 = 2 ^ n - 1 - u / 2 by omega, mx_and_co n (u / 2) (by omega)]
      refine ⟨rfl, by omega, by rw [Nat.pow_zero, Nat.div_one]; exact q, fun j hj => by omega⟩
theorem mx_pb_1 : ∀ k : Nat, k < 64 → mx_pb 8 (2 ^ k - 1) = k := by decide +kernel
theorem mx_bt_u (v : Int) (e : Nat) : mx_bt v e = decide (mx_u v / 2 ^ e % 2 = 1) := by
  unfold mx_bt
  rw [BitVec.getLsbD, BitVec.toNat_ofInt, Nat.testBit_eq_decide_div_mod_eq]
  rfl
theorem mx_u_neg (v : Int) (h0 : mx_u v ≠ 0) : mx_u (am_x (-v)) = 18446744073709551616 - mx_u v := by
  have h := mx_u_i v
  have h2 := mx_u_i (am_x (-v))
  have h3 := mx_x_m (-v)
  omega
theorem mx_u_dec (w : Nat) (p0 : 0 < w) (p1 : w ≤ 9223372036854775808) : mx_u (am_x (am_x (w : Int) - 1)) = w - 1 := by
  have h2 := mx_u_i (am_x (am_x (w : Int) - 1))
  have h3 := mx_x_m (am_x (w : Int) - 1)
  have h4 := mx_x_m (w : Int)
  omega
theorem mx_low (v : Int) (h0 : mx_u v ≠ 0) : mx_pb 8 (mx_u (am_x (am_land v (am_x (-v)) - 1))) = mx_tz 64 (mx_u v) := by
  have hu := mx_u_lt v
  obtain ⟨i1, i2, i3, i4⟩ := mx_and_neg 64 (mx_u v) (by omega) hu
  have e1 : mx_u (am_x (-v)) = 2 ^ 64 - mx_u v := mx_u_neg v h0
  have p1 : 2 ^ mx_tz 64 (mx_u v) ≤ 2 ^ 63 := Nat.pow_le_pow_right (by decide) (by omega)
  have p0 : 0 < 2 ^ mx_tz 64 (mx_u v) := Nat.two_pow_pos _
  have e2 : mx_u (am_x (am_land v (am_x (-v)) - 1)) = 2 ^ mx_tz 64 (mx_u v) - 1 := by
    rw [mx_land_u, e1, i1]
    exact mx_u_dec _ p0 p1
  rw [e2, mx_pb_1 _ i2]
/-- the first member of g from f on; m: none-/
def mx_nx (m : Int) (H : Nat → Int) (g : Int) (f : Nat) : Int := if mx_fi (fun e => decide (H e = g)) (m.toNat - f) f = -1 then m else mx_fi (fun e => decide (H e = g)) (m.toNat - f) f
theorem mx_nx_some {m : Int} {H : Nat → Int} {g : Int} {f e : Nat} (h1 : f ≤ e) (h2 : (e : Int) < m) (hH : H e = g) (h : ∀ j, f ≤ j → j < e → H j ≠ g) : mx_nx m H g f = e := by
  have : mx_fi (fun e => decide (H e = g)) (m.toNat - f) f = (e : Int) := mx_fi_at h1 (by omega) (decide_eq_true hH) (fun j a b => decide_eq_false (h j a b))
  unfold mx_nx
  rw [this, if_neg (by omega)]
theorem mx_nx_none {m : Int} {H : Nat → Int} {g : Int} {f : Nat} (h : ∀ j : Nat, f ≤ j → (j : Int) < m → H j ≠ g) : mx_nx m H g f = m := by
  have : mx_fi (fun e => decide (H e = g)) (m.toNat - f) f = -1 := mx_fi_no (fun j a b => decide_eq_false (h j a (by omega)))
  unfold mx_nx
  rw [this, if_pos rfl]
theorem mx_nx_c {m : Int} {H : Nat → Int} {g : Int} {f : Nat} (hm : 0 ≤ m) : (mx_nx m H g f = m ∧ ∀ j : Nat, f ≤ j → (j : Int) < m → H j ≠ g) ∨ ∃ e : Nat, mx_nx m H g f = e ∧ f ≤ e ∧ (e : Int) < m ∧ H e = g ∧ ∀ j, f ≤ j → j < e → H j ≠ g := by
  rcases mx_fi_spec (fun e => decide (H e = g)) (m.toNat - f) f with ⟨h1, h2⟩ | ⟨i, h1, h2, h3, h4, h5⟩
  · have h : ∀ j : Nat, f ≤ j → (j : Int) < m → H j ≠ g := fun j a b => of_decide_eq_false (h2 j a (by omega))
    exact Or.inl ⟨mx_nx_none h, h⟩
  · have h : ∀ j, f ≤ j → j < i → H j ≠ g := fun j a b => of_decide_eq_false (h5 j a b)
    exact Or.inr ⟨i, mx_nx_some h2 (by omega) (of_decide_eq_true h4) h, h2, by omega, of_decide_eq_true h4, h⟩
theorem mx_cmp_ne {a b : Int} (h : a ≠ b) : ¬ am_cmp a b = 0 := by
  unfold am_cmp
  by_cases q : a < b
  · rw [if_pos q]; decide
  · rw [if_neg q, if_neg h]; decide
section
variable {σ : am_M}
theorem me_memberFrom_s (d n : Nat) (g f : Nat) (hM : mx_Mb (σ 2 3) (σ 2 9) (σ 9) (σ 12)) (h3 : 0 ≤ σ 2 3 ∧ σ 2 3 ≤ 64) (hg : (g : Int) < σ 2 9) (h9 : σ 2 9 ≤ 64) (hf : f ≤ 64) : me_memberFrom (d + 2) g f σ n = some (mx_nx (σ 2 3) (σ 9) g f, σ, n) := by
  rw [me_memberFrom_e, me_isGroup_s, Option.bind_some]
  dsimp only
  rw [mx_bi_p ⟨by omega, hg⟩, if_neg (show ¬ (f : Int) < 0 by omega)]
  have hm : ∀ e : Nat, e < 64 → (mx_u (σ 12 g) / 2 ^ e % 2 = 1 ↔ (e : Int) < σ 2 3 ∧ σ 9 e = g) := fun e he => by
    have := hM g hg e he
    rw [mx_bt_u, decide_eq_true_iff] at this
    exact this
  by_cases q : (f : Int) < 64
  · rw [if_pos q, ix_12 (by omega) (by omega), Int.toNat_natCast, mx_lushr_u _ f (by omega)]
    have hu := mx_u_lt (σ 12 g)
    have hw : mx_u (σ 12 g) / 2 ^ f < 18446744073709551616 := Nat.lt_of_le_of_lt (Nat.div_le_self _ _) hu
    have hux := mx_u_x _ hw
    rw [me_memberFrom_30_e]
    by_cases z : mx_u (σ 12 g) / 2 ^ f = 0
    · rw [z, mx_x_n 0 (by decide), if_pos (show am_cmp ((0 : Nat) : Int) 0 = 0 from rfl), mx_nx_none]
      intro j h1 h2 h3
      have := (hm j (by omega)).mpr ⟨h2, h3⟩
      have e : mx_u (σ 12 g) / 2 ^ j = mx_u (σ 12 g) / 2 ^ f / 2 ^ (j - f) := by rw [Nat.div_div_eq_div_mul, ← Nat.pow_add, show f + (j - f) = j by omega]
      rw [e, z, Nat.zero_div] at this
      omega
    · have hx : am_x ((mx_u (σ 12 g) / 2 ^ f : Nat) : Int) ≠ 0 := fun h => by rw [h] at hux; exact z (hux.symm.trans (by rfl))
      rw [if_neg (mx_cmp_ne hx), lo_bitCount_s, Option.bind_some, mx_low _ (by rw [hux]; exact z), hux]
      dsimp only
      obtain ⟨i1, i2, i3, i4⟩ := mx_and_neg 64 (mx_u (σ 12 g) / 2 ^ f) (by omega) hw
      generalize mx_tz 64 (mx_u (σ 12 g) / 2 ^ f) = k at *
      have dv : ∀ j : Nat, mx_u (σ 12 g) / 2 ^ f / 2 ^ j = mx_u (σ 12 g) / 2 ^ (f + j) := fun j => by rw [Nat.div_div_eq_div_mul, ← Nat.pow_add]
      have hk : f + k < 64 := by
        apply Classical.byContradiction
        intro h
        rw [dv] at i3
        have : mx_u (σ 12 g) < 2 ^ (f + k) := Nat.lt_of_lt_of_le hu (Nat.pow_le_pow_right (n := 2) (i := 64) (by decide) (by omega))
        rw [Nat.div_eq_of_lt this] at i3
        omega
      rw [dv] at i3
      obtain ⟨a1, a2⟩ := (hm (f + k) hk).mp i3
      rw [mx_nx_some (by omega) a1 a2, mx_w_id (by omega) (by omega), Int.natCast_add]
      intro j h1 h2 h3
      have := i4 (j - f) (by omega)
      rw [dv, show f + (j - f) = j by omega] at this
      have := (hm j (by omega)).mpr ⟨by omega, h3⟩
      omega
  · rw [if_neg q, me_memberFrom_30_e, if_pos (by decide), mx_nx_none]
    intro j h1 h2
    omega
end
/-! how many members-/
def mx_sb : Nat → Nat → Nat
  | 0, _ => 0
  | k + 1, u => u % 2 + mx_sb k (u / 2)
theorem mx_sb_8 (k u : Nat) : mx_sb (k + 8) u = mx_c3 (u % 256) + mx_sb k (u / 256) := by
  rw [(mx_t4 (u % 256) (by omega)).2.2.2]
  show u % 2 + (u / 2 % 2 + (u / 2 / 2 % 2 + (u / 2 / 2 / 2 % 2 + (u / 2 / 2 / 2 / 2 % 2 + (u / 2 / 2 / 2 / 2 / 2 % 2 + (u / 2 / 2 / 2 / 2 / 2 / 2 % 2 + (u / 2 / 2 / 2 / 2 / 2 / 2 / 2 % 2 + mx_sb k (u / 2 / 2 / 2 / 2 / 2 / 2 / 2 / 2)))))))) = _
  rw [show u / 2 / 2 / 2 / 2 / 2 / 2 / 2 / 2 = u / 256 by omega]
  generalize mx_sb k (u / 256) = z
  omega
theorem mx_pb_sb (u : Nat) : mx_pb 8 u = mx_sb 64 u := by
  rw [mx_sb_8 56, mx_sb_8 48, mx_sb_8 40, mx_sb_8 32, mx_sb_8 24, mx_sb_8 16, mx_sb_8 8, mx_sb_8 0]
  rfl
theorem mx_cn_sb (v : Int) : ∀ (k i : Nat) (z : Int), mx_cn (fun e => mx_bt v e) k i z = z + (mx_sb k (mx_u v / 2 ^ i) : Nat) := by
  intro k
  induction k with
  | zero => intro i z; show z = z + ((0 : Nat) : Int); omega
  | succ k ih =>
    intro i z
    show mx_cn (fun e => mx_bt v e) k (i + 1) (z + bif mx_bt v i then 1 else 0) = z + ((mx_u v / 2 ^ i % 2 + mx_sb k (mx_u v / 2 ^ i / 2) : Nat) : Int)
    rw [ih, mx_bt_u, Nat.pow_succ, Nat.div_div_eq_div_mul]
    by_cases q : mx_u v / 2 ^ i % 2 = 1
    · rw [decide_eq_true q, cond_true, q]; omega
    · rw [decide_eq_false q, cond_false, show mx_u v / 2 ^ i % 2 = 0 by omega]; omega
theorem mx_cn_add (p : Nat → Bool) : ∀ (a b i : Nat) (z : Int), mx_cn p (a + b) i z = mx_cn p b (i + a) (mx_cn p a i z) := by
  intro a
  induction a with
  | zero => intro b i z; rw [Nat.zero_add]; rfl
  | succ a ih =>
    intro b i z
    rw [show a + 1 + b = (a + b) + 1 by omega]
    show mx_cn p (a + b) (i + 1) _ = mx_cn p b (i + (a + 1)) (mx_cn p a (i + 1) _)
    rw [ih, show i + 1 + a = i + (a + 1) by omega]
theorem mx_cn_no (p : Nat → Bool) : ∀ (a i : Nat) (z : Int), (∀ j, i ≤ j → j < i + a → p j = false) → mx_cn p a i z = z := by
  intro a
  induction a with
  | zero => intro i z _; rfl
  | succ a ih =>
    intro i z h
    show mx_cn p a (i + 1) (z + bif p i then 1 else 0) = z
    rw [h i (by omega) (by omega), cond_false, Int.add_zero]
    exact ih (i + 1) z fun j h1 h2 => h j (by omega) (by omega)
theorem mx_members {m g : Int} {H M : Nat → Int} (h : mx_Mb m g H M) (i : Nat) (hi : (i : Int) < g) (hm : 0 ≤ m ∧ m ≤ 64) : ((mx_pb 8 (mx_u (M i)) : Nat) : Int) = mx_cn (fun e => decide (H e = i)) m.toNat 0 0 := by
  have e1 := mx_cn_sb (M i) 64 0 0
  rw [Nat.pow_zero, Nat.div_one, ← mx_pb_sb, Int.zero_add] at e1
  rw [← e1, show (64 : Nat) = m.toNat + (64 - m.toNat) by omega, mx_cn_add, mx_cn_no _ (64 - m.toNat)]
  · refine mx_cn_c _ _ _ fun j h1 h2 => ?_
    have := h i hi j (by omega)
    cases q : mx_bt (M i) j with
    | true => exact (decide_eq_true (this.mp q).2).symm
    | false =>
      refine (decide_eq_false fun r => ?_).symm
      rw [this.mpr ⟨by omega, r⟩] at q
      cases q
  · intro j h1 h2
    have := h i hi j (by omega)
    cases q : mx_bt (M i) j with
    | true => have := (this.mp q).1; omega
    | false => rfl
