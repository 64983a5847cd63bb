/-! WAYS of the reference -/
section
variable {n : Nat} {μ : am_M}
theorem mx_and1 (a : Int) : am_and a 1 = 0 ∨ am_and a 1 = 1 := by
  unfold am_and
  have h : (BitVec.ofInt 32 a &&& BitVec.ofInt 32 1).toNat = (BitVec.ofInt 32 a).toNat % 2 := by
    rw [BitVec.toNat_and, show (BitVec.ofInt 32 1).toNat = 1 from rfl, Nat.and_one_is_mod]
  rw [BitVec.toInt_eq_toNat_cond, h]
  split <;> omega
theorem mx_alw_0 {al k : Int} : (am_and (am_shr al k) 1 = 0) ↔ (mx_alw al k = false) := by
  unfold mx_alw
  rcases mx_and1 (am_shr al k) with h | h <;> rw [h] <;> decide
/-- what the reference has told -/
def mx_LW (σ : am_M) (W : List mx_wt) : Prop := σ 82 35 = W.length ∧ ∀ (i : Nat) (w : mx_wt), W[i]? = some w → σ 109 i = w.1 ∧ σ 110 i = w.2.1 ∧ σ 111 i = w.2.2.1 ∧ σ 112 i = w.2.2.2.1 ∧ σ 113 i = w.2.2.2.2.1 ∧ σ 114 i = w.2.2.2.2.2
abbrev mx_Cw : List Nat := [109, 110, 111, 112, 113, 114]
theorem mx_LW_fr {σ σ' : am_M} {W : List mx_wt} (h : mx_LW σ W) (c : ∀ i, 109 ≤ i → i ≤ 114 → σ' i = σ i) (c2 : σ' 82 35 = σ 82 35) : mx_LW σ' W := by
  unfold mx_LW
  rw [c2, c 109 (by decide) (by decide), c 110 (by decide) (by decide), c 111 (by decide) (by decide), c 112 (by decide) (by decide), c 113 (by decide) (by decide), c 114 (by decide) (by decide)]
  exact h
theorem mo_way_s (d : Nat) (k e x y c a b r : Int) (σ : am_M) (W : List mx_wt) (hk : 0 ≤ k ∧ k ≤ 11) (ha : 0 ≤ a ∧ a ≤ 1000000) (hb : 0 ≤ b ∧ b ≤ 1000000) (hr : 0 ≤ r ∧ r ≤ 1000000) (hW : mx_LW σ W) (hL : W.length < 390) :
    ∃ σ' : am_M, mo_way (d + 10) k e x y c a b r σ n = some (0, σ', n) ∧ mx_Fq mx_Cw [(82, 35)] σ σ' ∧ mx_LW σ' (W ++ if mx_alw (σ 82 4) k = true then [(k, e, x, y, c, mx_pr k a b r)] else []) := by
  rw [mo_way_e]
  cases z : mx_alw (σ 82 4) k with
  | false =>
    refine ⟨σ, by rw [if_pos (mx_alw_0.mpr z)], mx_fq_rf, ?_⟩
    rw [if_neg (by decide), List.append_nil]; exact hW
  | true =>
    obtain ⟨h1, h2⟩ := hW
    have I : (0 : Int) ≤ (W.length : Int) ∧ (W.length : Int) < 400 := ⟨by omega, by omega⟩
    have w1 : am_w ((W.length : Int) + 1) = ((W.length + 1 : Nat) : Int) := mx_w_nat (by omega)
    obtain ⟨σ5, h5⟩ : ∃ σ5, σ5 = am_wr (am_wr (am_wr (am_wr (am_wr σ 109 W.length k) 110 W.length e) 111 W.length x) 112 W.length y) 113 W.length c := ⟨_, rfl⟩
    have e5 : σ5 82 = σ 82 := by rw [h5, mx_wr_ne (by decide), mx_wr_ne (by decide), mx_wr_ne (by decide), mx_wr_ne (by decide), mx_wr_ne (by decide)]
    refine ⟨am_wr (am_wr σ5 114 W.length (mx_pr k a b r)) 82 35 ((W.length + 1 : Nat) : Int), ?_, ?_, ?_⟩
    · rw [if_neg (fun q => by rw [mx_alw_0.mp q] at z; exact absurd z (by decide))]
      simp only [h1, mx_m, Int.toNat_natCast, ix_109 I.1 I.2, ix_110 I.1 I.2, ix_111 I.1 I.2, ix_112 I.1 I.2, ix_113 I.1 I.2, mx_wr_ne (show (82 : Nat) ≠ 109 by decide), mx_wr_ne (show (82 : Nat) ≠ 110 by decide), mx_wr_ne (show (82 : Nat) ≠ 111 by decide), mx_wr_ne (show (82 : Nat) ≠ 112 by decide), mx_wr_ne (show (82 : Nat) ≠ 113 by decide)]
      rw [← h5, mo_silent_s d k a b r σ5 n hk ha hb hr, Option.bind_some]
      simp only [ix_114 I.1 I.2, mx_wr_ne (show (82 : Nat) ≠ 114 by decide), e5, h1, w1]
    · rw [h5]
      exact mx_fq_wr (mx_fq_wr (mx_fq_wr (mx_fq_wr (mx_fq_wr (mx_fq_wr (mx_fq_wr mx_fq_rf rfl) rfl) rfl) rfl) rfl) rfl) (by rfl)
    · rw [if_pos rfl]
      refine ⟨by rw [mx_wr_at, List.length_append]; rfl, fun i w hw => ?_⟩
      simp only [mx_wr_ne (show (109 : Nat) ≠ 82 by decide), mx_wr_ne (show (110 : Nat) ≠ 82 by decide), mx_wr_ne (show (111 : Nat) ≠ 82 by decide), mx_wr_ne (show (112 : Nat) ≠ 82 by decide), mx_wr_ne (show (113 : Nat) ≠ 82 by decide), mx_wr_ne (show (114 : Nat) ≠ 82 by decide), mx_wr_ne (show (109 : Nat) ≠ 114 by decide), mx_wr_ne (show (110 : Nat) ≠ 114 by decide), mx_wr_ne (show (111 : Nat) ≠ 114 by decide), mx_wr_ne (show (112 : Nat) ≠ 114 by decide), mx_wr_ne (show (113 : Nat) ≠ 114 by decide), h5, mx_wr_ne (show (109 : Nat) ≠ 110 by decide), mx_wr_ne (show (109 : Nat) ≠ 111 by decide), mx_wr_ne (show (109 : Nat) ≠ 112 by decide), mx_wr_ne (show (109 : Nat) ≠ 113 by decide), mx_wr_ne (show (110 : Nat) ≠ 111 by decide), mx_wr_ne (show (110 : Nat) ≠ 112 by decide), mx_wr_ne (show (110 : Nat) ≠ 113 by decide), mx_wr_ne (show (111 : Nat) ≠ 112 by decide), mx_wr_ne (show (111 : Nat) ≠ 113 by decide), mx_wr_ne (show (112 : Nat) ≠ 113 by decide), mx_wr_ne (show (110 : Nat) ≠ 109 by decide), mx_wr_ne (show (111 : Nat) ≠ 109 by decide), mx_wr_ne (show (111 : Nat) ≠ 110 by decide), mx_wr_ne (show (112 : Nat) ≠ 109 by decide), mx_wr_ne (show (112 : Nat) ≠ 110 by decide), mx_wr_ne (show (112 : Nat) ≠ 111 by decide), mx_wr_ne (show (113 : Nat) ≠ 109 by decide), mx_wr_ne (show (113 : Nat) ≠ 110 by decide), mx_wr_ne (show (113 : Nat) ≠ 111 by decide), mx_wr_ne (show (113 : Nat) ≠ 112 by decide), mx_wr_ne (show (114 : Nat) ≠ 109 by decide), mx_wr_ne (show (114 : Nat) ≠ 110 by decide), mx_wr_ne (show (114 : Nat) ≠ 111 by decide), mx_wr_ne (show (114 : Nat) ≠ 112 by decide), mx_wr_ne (show (114 : Nat) ≠ 113 by decide)]
      by_cases q : i < W.length
      · rw [List.getElem?_append_left q] at hw
        simp only [mx_wr_off (show i ≠ W.length by omega)]
        exact h2 i w hw
      · have hq : i = W.length := by
          have := (List.getElem?_eq_some_iff.mp hw).1
          rw [List.length_append] at this
          simp only [List.length_cons, List.length_nil] at this
          omega
        subst hq
        rw [List.getElem?_append_right (Nat.le_refl _), Nat.sub_self] at hw
        cases hw
        simp only [mx_wr_at, and_self]
end
