/-! READ: the call -/
section
variable {t n : Nat} {σ μ : am_M}
theorem mo_read_59_s (dp s S : Nat) (hs : s < 8) (hS : S ≤ 160) : ∀ (k i : Nat) (τ : am_M), i + k = S → τ 82 69 = S →
    ∃ τ' : am_M, mo_read_59 dp s i τ n = mo_read_59 dp s S τ' n ∧ mx_Fq [136] [] τ τ' ∧ (∀ x, x < i → τ' 136 x = τ 136 x) ∧ ∀ x, i ≤ x → x < S → τ' 136 x = am_w (τ 102 (160 * s + x)) := by
  intro k
  induction k with
  | zero =>
    intro i τ hi h69
    have : i = S := by omega
    subst this
    exact ⟨τ, rfl, mx_fq_rf, fun _ _ => rfl, fun x h1 h2 => by omega⟩
  | succ k ih =>
    intro i τ hi h69
    have I : (0 : Int) ≤ (i : Int) ∧ (i : Int) < 160 := ⟨by omega, by omega⟩
    have e1 : am_w (am_w (160 * (s : Int)) + (i : Int)) = ((160 * s + i : Nat) : Int) := by rw [mx_w_id (z := 160 * (s : Int)) (by omega) (by omega), mx_w_id (by omega) (by omega)]; omega
    have i1k : (i : Int) < 1000 := by omega
    have x1 : 160 * s + i < 1280 := by omega
    have iS : (i : Int) < τ 82 69 := by rw [h69]; omega
    obtain ⟨τ', a1, a2, a3, a4⟩ := ih (i + 1) (am_wr τ 136 i (am_w (τ 102 (160 * s + i)))) (by omega) (by rw [mx_wr_ne (by decide)]; exact h69)
    refine ⟨τ', ?_, mx_fq_tr (mx_fq_wr mx_fq_rf rfl) a2, fun x hx => by rw [a3 x (by omega), mx_wr_off (by omega)], fun x h1 h2 => ?_⟩
    · rw [mo_read_59_e, if_pos iS, e1, ix_102 (by omega) (by omega), ix_136 I.1 I.2, mx_m, Int.toNat_natCast, Int.toNat_natCast, mx_w_nat i1k]
      exact a1
    · by_cases z : x = i
      · rw [z, a3 i (by omega), mx_wr_at]
      · rw [a4 x (by omega) h2, mx_wr_ne (by decide)]
/-- what the reference does behind reads() -/
noncomputable def mx_rtl (dp : Nat) (m0 g0 : Int) (Y : Option am_R) : Option am_R := Y.bind fun q1 => if q1.2.1 82 6 = (-1) then (if q1.2.1 82 70 < q1.2.1 82 69 then (am_m (am_wr q1.2.1 82 6 (q1.2.1 82 70)) fun σ3 => mo_read_145 dp m0 g0 q1.1 σ3 q1.2.2) else mo_read_145 dp m0 g0 q1.1 q1.2.1 q1.2.2) else mo_read_145 dp m0 g0 q1.1 q1.2.1 q1.2.2
theorem mo_read_p (hI : mx_Inv t n σ) {s S : Nat} (hs : s < 8) (hS : S ≤ 160) (h98 : σ 98 s = 1) (h100 : σ 100 s = S) (hel : ∀ i : Nat, i < 160 → σ (67 + 2 * s) i = σ 102 (160 * s + i)) (d : Nat) {ρ : am_M} (hρ : ∀ a x, 82 ≤ a → a ≠ 83 → ρ a x = σ a x) :
    ∃ τ2 : am_M, mo_read (d + 150) s ρ n = mx_rtl (d + 149) (σ 2 3) (σ 2 9) (mo_reads (d + 149) τ2 n) ∧ mx_Fq [136] [(82, 6), (82, 69), (82, 70)] ρ τ2 ∧ mx_jr σ τ2 τ2 (mx_tx (σ (67 + 2 * s)) S) S 0 [] := by
  have hg := mx_I_gd hI
  have hb := mx_I_b hI
  have Sb : (0 : Int) ≤ (s : Int) ∧ (s : Int) < 8 := ⟨by omega, by omega⟩
  have e98 : ρ 98 s = 1 := (hρ 98 s (by decide) (by decide)).trans h98
  have e100 : ρ 100 s = S := (hρ 100 s (by decide) (by decide)).trans h100
  obtain ⟨τ', a1, a2, a3, a4⟩ := mo_read_59_s (n := n) (d + 149) s S hs hS S 0 (am_wr ρ 82 69 (S : Nat)) (by omega) (by rw [mx_wr_at])
  obtain ⟨τ2, hτ2⟩ : ∃ τ2, τ2 = am_wr (am_wr τ' 82 70 0) 82 6 (-1) := ⟨_, rfl⟩
  have F : mx_Fq [136] [(82, 6), (82, 69), (82, 70)] ρ τ2 := by
    rw [hτ2]
    refine mx_fq_wr (mx_fq_wr (mx_fq_tr (mx_fq_wr mx_fq_rf rfl) (mx_fq_up a2 rfl)) rfl) rfl
  have t69 : τ' 82 69 = S := by rw [a2 82 69 (by decide) (by simp), mx_wr_at]
  have rl : mx_rl σ τ2 := mx_rl_fr (mx_I_rl hI) (fun i j a b => by rw [F i j (by simp only [List.mem_cons, List.not_mem_nil, or_false]; omega) (by simp only [List.mem_cons, List.not_mem_nil, or_false, Prod.mk.injEq]; omega)]; exact hρ i j (by omega) (by omega)) (fun j q => by rw [F 82 j (by decide) (by simp only [List.mem_cons, List.not_mem_nil, or_false, Prod.mk.injEq]; omega)]; exact hρ 82 j (by decide) (by decide))
  have e1 : τ2 82 1 = σ 2 3 := rl.1.2.2.1
  have e2 : τ2 82 2 = σ 2 9 := rl.1.2.2.2.1
  refine ⟨τ2, ?_, F, ⟨?_, ?_, ?_, ?_, fun i hi => ?_, Nat.zero_le _, hS⟩, mx_vj_nil hg, rl, mx_fq_rf⟩
  · have z : ((0 : Nat) : Int) = 0 := rfl
    rw [mo_read_e, mo_isShelf_s, Option.bind_some]
    dsimp only
    rw [mx_bi_p ⟨by omega, by omega⟩, ix_98 Sb.1 Sb.2]
    simp only [Int.toNat_natCast]
    rw [if_neg (show ¬ ρ 98 s = 2 by rw [e98]; decide), ix_98 Sb.1 Sb.2, if_neg (show ¬ ρ 98 s = 0 by rw [e98]; decide), ix_100 Sb.1 Sb.2, mx_m, e100]
    refine Eq.trans a1 ?_
    have n69 : ¬ ((S : Nat) : Int) < τ' 82 69 := by rw [t69]; exact Int.lt_irrefl _
    rw [mo_read_59_e, if_neg n69, mx_m, mx_m, ← hτ2, e1, e2]
    rfl
  · rw [hτ2, mx_wr_off (by decide), mx_wr_off (by decide)]; exact t69
  · rw [hτ2, mx_wr_off (by decide), mx_wr_at]; rfl
  · rw [hτ2, mx_wr_at]
  · intro i hi
    rw [hτ2, mx_wr_ne (by decide), mx_wr_ne (by decide), a4 i (Nat.zero_le _) hi, mx_wr_ne (by decide), hρ 102 _ (by decide) (by decide)]
    unfold mx_tx
    rw [if_pos hi, hel i (by omega)]
  · unfold mx_tx
    rw [if_neg (by omega)]
/-- counting a refusal on both sides -/
theorem mx_I5_ref {τ σ1 : am_M} {k : Nat} (h : mx_I5 σ) (h57 : ∀ j, τ 57 j = (mx_rf σ1 k) 57 j) (hσ : σ1 57 = σ 57) (h83 : ∀ j, τ 83 j = am_wr σ 83 k (am_w (σ 83 k + 1)) 83 j) : mx_I5 τ := fun j hj => by
  have q := h j hj
  rw [h57, h83]
  unfold mx_rf
  rw [mx_wr_if, mx_wr_if, hσ]
  by_cases z : j = k
  · subst z
    rw [if_pos rfl, if_pos rfl, q]
  · rw [if_neg z, if_neg z, q]
end
