/-! what is told: the reference, the class -/
section
variable {m g : Int} {K P X Y H T : Nat → Int} {σ : am_M}
theorem mx_fi_r (p : Nat → Bool) (m : Int) (h0 : 0 ≤ m) : (mx_fi p m.toNat 0 = -1 ∧ ∀ i : Nat, (i : Int) < m → p i = false) ∨ ∃ i : Nat, mx_fi p m.toNat 0 = (i : Int) ∧ (i : Int) < m ∧ p i = true ∧ ∀ j : Nat, j < i → p j = false := by
  rcases mx_fi_spec p m.toNat 0 with ⟨h1, h2⟩ | ⟨i, h1, h2, h3, h4, h5⟩
  · exact Or.inl ⟨h1, fun i hi => h2 i (by omega) (by omega)⟩
  · exact Or.inr ⟨i, h1, by omega, h4, fun j hj => h5 j (by omega) hj⟩
theorem mo_told_s (h : mx_R m g K P X Y H T σ) (d : Nat) (n : Nat) (k p x y : Int) (hm : m < 143) (hx : k ≠ 1 → 0 ≤ x ∧ x < g) (hy : 5 ≤ k → 0 ≤ y ∧ y < g) :
    (mx_fi (mx_al K P X Y H k p (mx_xk k x T) (mx_yk k y T)) m.toNat 0 = -1 → ∃ σ' : am_M, mo_told (d + 3) k p x y σ n = some (g, σ', n) ∧ mx_Fr [82, 89, 90, 91, 92, 93, 94, 95] σ σ' ∧ (∀ j, j ≠ 1 → j ≠ 2 → σ' 82 j = σ 82 j) ∧
      mx_R (m + 1) (g + 1) (mx_up K m.toNat k) (mx_up P m.toNat p) (mx_up X m.toNat (mx_xk k x T)) (mx_up Y m.toNat (mx_yk k y T)) (mx_up H m.toNat g) (mx_up T g.toNat g) σ') ∧
    (∀ e : Nat, mx_fi (mx_al K P X Y H k p (mx_xk k x T) (mx_yk k y T)) m.toNat 0 = (e : Int) → mo_told (d + 3) k p x y σ n = some (H e, σ, n)) := by
  have hh := h
  obtain ⟨hRe, hRi, h1, h2, h3, h4, h5⟩ := h
  constructor
  · intro q
    rw [mo_told_e, mo_alike_s hh d n k p x y hx hy, Option.bind_some]
    simp only [q]
    rw [if_pos trivial]
    obtain ⟨σ', e1, e2, e3, e4⟩ := mo_adds_new hh d n k p x y hm hx hy
    exact ⟨σ', by rw [e1]; rfl, e2, e3, e4⟩
  · intro e q
    rcases mx_fi_r (mx_al K P X Y H k p (mx_xk k x T) (mx_yk k y T)) m (by omega) with ⟨q1, -⟩ | ⟨i, q1, q2, q3, -⟩
    · omega
    have : i = e := by omega
    subst this
    have q4 := of_decide_eq_true q3
    obtain ⟨a1, a2, a3, a4⟩ := hRe i q2
    obtain ⟨⟨b1, b2, b3⟩, -⟩ := a4 q4.2.2.2.2
    rw [mo_told_e, mo_alike_s hh d n k p x y hx hy, Option.bind_some]
    simp only [q]
    rw [if_neg (by omega), ix_93 (by omega) (by omega), Int.toNat_natCast, mo_root_r hh _ n _ b1 b2, Option.bind_some, b3]
end
/-! bits -/
def mx_bt (x : Int) (e : Nat) : Bool := (BitVec.ofInt 64 x).getLsbD e
theorem mx_bt_inv (x : BitVec 64) (e : Nat) : mx_bt x.toInt e = x.getLsbD e := by
  unfold mx_bt
  rw [BitVec.ofInt_toInt]
theorem mx_bt_or (a b : Int) (e : Nat) : mx_bt (am_lor a b) e = (mx_bt a e || mx_bt b e) := by
  unfold am_lor
  rw [mx_bt_inv, BitVec.getLsbD_or]
  rfl
theorem mx_bt_and (a b : Int) (e : Nat) : mx_bt (am_land a b) e = (mx_bt a e && mx_bt b e) := by
  unfold am_land
  rw [mx_bt_inv, BitVec.getLsbD_and]
  rfl
theorem mx_bt_0 (e : Nat) : mx_bt 0 e = false := by
  unfold mx_bt
  simp
theorem mx_bt_not (a : Int) (e : Nat) (he : e < 64) : mx_bt (am_lxor a (-1)) e = !mx_bt a e := by
  unfold am_lxor
  rw [mx_bt_inv, BitVec.getLsbD_xor]
  have : (BitVec.ofInt 64 (-1)).getLsbD e = true := by
    rw [show BitVec.ofInt 64 (-1) = BitVec.allOnes 64 by decide, BitVec.getLsbD_allOnes]
    simp [he]
  rw [this]
  unfold mx_bt
  simp
theorem mx_bt_one : ∀ k : Nat, k < 64 → ∀ e : Nat, e < 64 → mx_bt (am_lshl 1 (k : Int)) e = decide (e = k) := by decide +kernel
theorem mx_bt_1 (k : Int) (h0 : 0 ≤ k) (h1 : k < 64) (e : Nat) (he : e < 64) : mx_bt (am_lshl 1 k) e = decide (e = k.toNat) := by
  have := mx_bt_one k.toNat (by omega) e he
  rwa [Int.toNat_of_nonneg h0] at this
theorem mx_bt_ext {a b : Int} (ha : -9223372036854775808 ≤ a ∧ a < 9223372036854775808) (hb : -9223372036854775808 ≤ b ∧ b < 9223372036854775808) (h : ∀ e, e < 64 → mx_bt a e = mx_bt b e) : a = b := by
  have : BitVec.ofInt 64 a = BitVec.ofInt 64 b := BitVec.eq_of_getLsbD_eq fun e he => h e he
  have h2 := congrArg BitVec.toInt this
  rw [BitVec.toInt_ofInt, BitVec.toInt_ofInt] at h2
  have e1 := mx_x_id (z := a) ha.1 ha.2
  have e2 := mx_x_id (z := b) hb.1 hb.2
  unfold am_x at e1 e2
  rw [← e1, ← e2]
  exact h2
theorem mx_land_rg (a b : Int) : -9223372036854775808 ≤ am_land a b ∧ am_land a b < 9223372036854775808 := by
  unfold am_land
  have := BitVec.toInt_lt (x := BitVec.ofInt 64 a &&& BitVec.ofInt 64 b)
  have := BitVec.le_toInt (BitVec.ofInt 64 a &&& BitVec.ofInt 64 b)
  omega
theorem mx_lor_rg (a b : Int) : -9223372036854775808 ≤ am_lor a b ∧ am_lor a b < 9223372036854775808 := by
  unfold am_lor
  have := BitVec.toInt_lt (x := BitVec.ofInt 64 a ||| BitVec.ofInt 64 b)
  have := BitVec.le_toInt (BitVec.ofInt 64 a ||| BitVec.ofInt 64 b)
  omega
/-- the members of the groups, as bits -/
def mx_Mb (m g : Int) (H M : Nat → Int) : Prop := ∀ i : Nat, (i : Int) < g → ∀ e : Nat, e < 64 → (mx_bt (M i) e = true ↔ (e : Int) < m ∧ H e = i)
/-! the class -/
def mx_ato (σ : am_M) (g k o x y : Int) : am_M :=
  am_wr (am_wr (am_wr (am_wr (am_wr (am_wr (am_wr (am_wr σ 2 3 (σ 2 3 + 1)) 5 (σ 2 3).toNat k) 6 (σ 2 3).toNat o) 7 (σ 2 3).toNat x) 8 (σ 2 3).toNat y) 9 (σ 2 3).toNat g) 12 g.toNat (am_lor (σ 12 g.toNat) (am_lshl 1 (σ 2 3)))) 2 17 (am_w (σ 2 17 + 1))
theorem me_addTo_s (d : Nat) (g k o x y : Int) (σ : am_M) (n : Nat) (h0 : 0 ≤ σ 2 3) (h1 : σ 2 3 < 64) (hg : 0 ≤ g ∧ g < 64) : me_addTo (d + 1) g k o x y σ n = some (0, mx_ato σ g k o x y, n) := by
  rw [me_addTo_e, if_pos h1]
  simp (disch := first | omega | decide) only [am_m, ix_5, ix_6, ix_7, ix_8, ix_9, ix_12, mx_w_id (z := σ 2 3 + 1), mx_wr_ne, mx_wr_off]
  rfl
theorem mx_ato_c (σ : am_M) (g k o x y : Int) : (mx_ato σ g k o x y) 5 = mx_up (σ 5) (σ 2 3).toNat k ∧ (mx_ato σ g k o x y) 6 = mx_up (σ 6) (σ 2 3).toNat o ∧ (mx_ato σ g k o x y) 7 = mx_up (σ 7) (σ 2 3).toNat x ∧ (mx_ato σ g k o x y) 8 = mx_up (σ 8) (σ 2 3).toNat y ∧
    (mx_ato σ g k o x y) 9 = mx_up (σ 9) (σ 2 3).toNat g ∧ (mx_ato σ g k o x y) 12 = mx_up (σ 12) g.toNat (am_lor (σ 12 g.toNat) (am_lshl 1 (σ 2 3))) ∧ (mx_ato σ g k o x y) 2 3 = σ 2 3 + 1 ∧ (mx_ato σ g k o x y) 2 17 = am_w (σ 2 17 + 1) ∧ (∀ j, j ≠ 3 → j ≠ 17 → (mx_ato σ g k o x y) 2 j = σ 2 j) ∧ mx_Fr [2, 5, 6, 7, 8, 9, 12] σ (mx_ato σ g k o x y) := by
  unfold mx_ato
  refine ⟨?_, ?_, ?_, ?_, ?_, ?_, ?_, ?_, ?_, ?_⟩
  · simp (disch := first | omega | decide) only [mx_wr_ne, mx_wr_up]
  · simp (disch := first | omega | decide) only [mx_wr_ne, mx_wr_up]
  · simp (disch := first | omega | decide) only [mx_wr_ne, mx_wr_up]
  · simp (disch := first | omega | decide) only [mx_wr_ne, mx_wr_up]
  · simp (disch := first | omega | decide) only [mx_wr_ne, mx_wr_up]
  · simp (disch := first | omega | decide) only [mx_wr_ne, mx_wr_up]
  · simp (disch := first | omega | decide) only [mx_wr_ne, mx_wr_off, mx_wr_at]
  · simp (disch := first | omega | decide) only [mx_wr_at]
  · intro j h1 h2
    simp (disch := first | omega | decide) only [mx_wr_ne, mx_wr_off]
  · (intro i hi; simp only [List.mem_cons, List.not_mem_nil, or_false, not_or] at hi; simp (disch := first | omega | decide) only [mx_wr_ne])
/-- a new group, with one expression -/
def mx_tln (σ : am_M) (k o x y : Int) : am_M :=
  mx_ato (am_wr (am_wr (am_wr (am_wr σ 2 9 (σ 2 9 + 1)) 10 (σ 2 9).toNat (σ 2 9)) 11 (σ 2 9).toNat (mx_cb k o (if k = 1 then (if 0 ≤ o ∧ o < σ 2 0 then σ 3 (4 * o + 1).toNat else 0) else (if 0 ≤ x ∧ x < σ 2 9 then σ 11 x.toNat else 0)) (if 0 ≤ y ∧ y < σ 2 9 then σ 11 y.toNat else 0))) 12 (σ 2 9).toNat 0) (σ 2 9) k o x y
theorem me_tell_new (d : Nat) (k o x y : Int) (σ : am_M) (n : Nat) (h9 : 0 ≤ σ 2 9) (h93 : σ 2 9 ≤ σ 2 3) (h3 : σ 2 3 < 64) (ht : σ 2 0 ≤ 8) (hx : x < σ 2 9) (hy : y < σ 2 9) (ha : mx_fi (mx_al (σ 5) (σ 6) (σ 7) (σ 8) (σ 9) k o x y) (σ 2 3).toNat 0 = -1) :
    me_tell (d + 3) k o x y σ n = some (σ 2 9, mx_tln σ k o x y, n) := by
  have tail : ∀ c : Int, me_tell_64 (d + 2) k o x y c σ n = some (σ 2 9, mx_ato (am_wr (am_wr (am_wr (am_wr σ 2 9 (σ 2 9 + 1)) 10 (σ 2 9).toNat (σ 2 9)) 11 (σ 2 9).toNat (mx_cb k o c (if 0 ≤ y ∧ y < σ 2 9 then σ 11 y.toNat else 0))) 12 (σ 2 9).toNat 0) (σ 2 9) k o x y, n) := by
    intro c
    rw [me_tell_64_e]
    simp (disch := first | omega | decide) only [am_m, ix_10, ix_11, ix_12, mx_w_id (z := σ 2 9 + 1)]
    rw [me_columnsOf_s _ _ _ _ (by simp (disch := first | omega | decide) only [mx_wr_ne, mx_wr_at]; omega), Option.bind_some]
    dsimp only
    rw [pm_columnsBy_s, Option.bind_some]
    dsimp only
    rw [me_addTo_s _ _ _ _ _ _ _ _ (by simp (disch := first | omega | decide) only [mx_wr_ne, mx_wr_off]; omega) (by simp (disch := first | omega | decide) only [mx_wr_ne, mx_wr_off]; omega) ⟨h9, by omega⟩, Option.bind_some]
    simp (disch := first | omega | decide) only [mx_wr_ne, mx_wr_at]
    have : (if 0 ≤ y ∧ y < σ 2 9 + 1 then σ 11 y.toNat else 0) = (if 0 ≤ y ∧ y < σ 2 9 then σ 11 y.toNat else 0) := by
      by_cases q : 0 ≤ y ∧ y < σ 2 9
      · rw [if_pos q, if_pos (by omega)]
      · rw [if_neg q, if_neg (by omega)]
    rw [this]
  rw [me_tell_e, me_alike_s _ _ _ _ _ _ _ (by omega) (by omega), Option.bind_some]
  simp only [ha]
  rw [if_pos trivial, if_pos h3, if_pos (by omega)]
  unfold mx_tln
  by_cases hk : k = 1
  · rw [if_pos hk, if_pos hk, me_factOfTable_s _ _ _ _ _ ht, Option.bind_some, tail]
    have : (if (0 ≤ o ∧ o < σ 2 0) ∧ (0:Int) ≤ 1 ∧ (1:Int) < 4 then σ 3 (4 * o + 1).toNat else 0) = (if 0 ≤ o ∧ o < σ 2 0 then σ 3 (4 * o + 1).toNat else 0) := by
      by_cases q : 0 ≤ o ∧ o < σ 2 0
      · rw [if_pos q, if_pos ⟨q, by decide, by decide⟩]
      · rw [if_neg q, if_neg fun z => q z.1]
    rw [this]
  · rw [if_neg hk, if_neg hk, me_columnsOf_s _ _ _ _ (by omega), Option.bind_some, tail]
theorem me_tell_old (d : Nat) (k o x y : Int) (σ : am_M) (n : Nat) (h3 : σ 2 3 ≤ 64) (e : Nat) (he : (e : Int) < σ 2 3) (ha : mx_fi (mx_al (σ 5) (σ 6) (σ 7) (σ 8) (σ 9) k o x y) (σ 2 3).toNat 0 = e) :
    me_tell (d + 3) k o x y σ n = some (σ 9 e, σ, n) := by
  rw [me_tell_e, me_alike_s _ _ _ _ _ _ _ (by omega) (by omega), Option.bind_some]
  simp only [ha]
  rw [if_neg (by omega), ix_9 (by omega) (by omega), Int.toNat_natCast]
theorem me_tell_full (d : Nat) (k o x y : Int) (σ : am_M) (n : Nat) (h3 : σ 2 3 = 64) (ha : mx_fi (mx_al (σ 5) (σ 6) (σ 7) (σ 8) (σ 9) k o x y) (σ 2 3).toNat 0 = -1) :
    me_tell (d + 3) k o x y σ n = some (-1, σ, n) := by
  rw [me_tell_e, me_alike_s _ _ _ _ _ _ _ (by omega) (by omega), Option.bind_some]
  simp only [ha]
  rw [if_pos trivial, if_neg (by omega)]
