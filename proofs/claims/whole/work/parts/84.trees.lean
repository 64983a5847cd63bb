/-! TREES -/
theorem mx_IA_of2 {t : Nat} {σ σ' : am_M} (f217 : σ' 2 17 = σ 2 17) (f294 : σ' 29 4 = σ 29 4) (f336 : σ' 33 6 = σ 33 6) (f23 : σ' 2 3 = σ 2 3) (f29 : σ' 2 9 = σ 2 9) (f375 : σ' 37 5 = σ 37 5) (c5 : σ' 5 = σ 5) (c7 : σ' 7 = σ 7) (c8 : σ' 8 = σ 8) (c9 : σ' 9 = σ 9) (c10 : σ' 10 = σ 10)
    (c30 : σ' 30 = σ 30) (c34 : σ' 34 = σ 34) (c41 : σ' 41 = σ 41) (c42 : σ' 42 = σ 42) (g6 : (σ' 29 2 = 31 ∧ σ' 29 3 = 32) ∨ (σ' 29 2 = 32 ∧ σ' 29 3 = 31)) (eR : mx_cR σ' = mx_cR σ) (eW : ∀ al d, mx_wl σ' al d = mx_wl σ al d) (hI : mx_IA t σ) : mx_IA t σ' := by
  obtain ⟨h1, h2, h3, h4, h5, h6⟩ := hI
  have rv : mx_Rv σ → mx_Rv σ' := fun q i hi => by rw [c30, eR]; exact q i hi
  refine ⟨by rw [f217]; exact h1, by rw [f294, f217]; exact h2, by rw [f336, f217]; exact h3, fun q => rv (h4 (by rw [← f294, ← f217]; exact q)), fun q => ?_, g6⟩
  obtain ⟨r1, r2, r3⟩ := h5 (by rw [← f336, ← f217]; exact q)
  refine ⟨rv r1, ⟨fun e he hH i hi => ?_, fun g hg hT => ?_⟩, ?_⟩
  · have p1 : mx_pe σ' e i = mx_pe σ e i := by unfold mx_pe; rw [eR, c5, c7, c8, c9]
    rw [c41, p1]
    rw [f23] at he
    rw [c9] at hH
    rw [c5] at hi
    exact r2.1 e he hH i hi
  · have p2 : ∀ i, mx_pg σ' g i = mx_pg σ g i := fun i => by unfold mx_pg; rw [eR]
    rw [c42, p2, p2]
    rw [f29] at hg
    rw [c10] at hT
    exact r2.2 g hg hT
  · obtain ⟨c, s1, s2⟩ := r3
    have dd : ∀ d, mx_dd σ' d → mx_dd σ d := fun d q => by unfold mx_dd at q ⊢; rw [f29, c10] at q; exact q
    refine ⟨c, fun d hd => by rw [f375, eW]; exact s1 d (dd d hd), fun d hd2 hk => ?_⟩
    rw [c34] at hk ⊢
    obtain ⟨a1, a2, a3⟩ := s2 d hd2 hk
    refine ⟨by unfold mx_dd at a1 ⊢; rw [f29, c10]; exact a1, a2, fun w hw => ?_⟩
    rw [f375, eW] at hw
    have := a3 w hw
    unfold mx_kn at this ⊢
    rw [c34]
    exact this
def mx_tw (K X Y : Nat → Int) (p : Nat → Int) (e : Nat) : Int := am_mn 1000000000 ((if X e = -1 then 1 else p (X e).toNat) * (if Y e = -1 then 1 else p (Y e).toNat))
def mx_tf (K X Y H : Nat → Int) (p : Nat → Int) : Nat → Nat → Int
  | 0 => fun _ => 0
  | e + 1 => fun i => if H e = i then am_mn 1000000000 (mx_tf K X Y H p e i + mx_tw K X Y p e) else mx_tf K X Y H p e i
def mx_TL (K X Y H : Nat → Int) (m : Nat) : Nat → Nat → Int
  | 0 => fun _ => 0
  | l + 1 => mx_tf K X Y H (mx_TL K X Y H m l) m
theorem mx_tf_S (K X Y H p : Nat → Int) (e i : Nat) : mx_tf K X Y H p (e + 1) i = if H e = i then am_mn 1000000000 (mx_tf K X Y H p e i + mx_tw K X Y p e) else mx_tf K X Y H p e i := rfl
theorem mx_mnb {x : Int} (h : 0 ≤ x) : 0 ≤ am_mn 1000000000 x ∧ am_mn 1000000000 x ≤ 1000000000 := by
  unfold am_mn
  split <;> omega
theorem mx_tw_b {K X Y p : Nat → Int} (hp : ∀ i, 0 ≤ p i ∧ p i ≤ 1000000000) (e : Nat) : 0 ≤ mx_tw K X Y p e ∧ mx_tw K X Y p e ≤ 1000000000 := by
  have f : ∀ v : Int, 0 ≤ (if v = -1 then 1 else p v.toNat) := fun v => by
    split
    · decide
    · exact (hp _).1
  have h0 := Int.mul_nonneg (f (X e)) (f (Y e))
  unfold mx_tw
  exact mx_mnb h0
theorem mx_tf_b {K X Y H p : Nat → Int} (hp : ∀ i, 0 ≤ p i ∧ p i ≤ 1000000000) : ∀ e i, 0 ≤ mx_tf K X Y H p e i ∧ mx_tf K X Y H p e i ≤ 1000000000 := by
  intro e
  induction e with
  | zero => intro i; exact ⟨Int.le_refl _, by show (0 : Int) ≤ _; decide⟩
  | succ e ih =>
    intro i
    rw [mx_tf_S]
    by_cases q : H e = i
    · have a := ih i
      have b := mx_tw_b (K := K) (X := X) (Y := Y) hp e
      rw [if_pos q]
      unfold am_mn
      split <;> omega
    · rw [if_neg q]; exact ih i
theorem mx_TL_b {K X Y H : Nat → Int} {m : Nat} : ∀ l i, 0 ≤ mx_TL K X Y H m l i ∧ mx_TL K X Y H m l i ≤ 1000000000 := by
  intro l
  induction l with
  | zero => intro i; exact ⟨Int.le_refl _, by show (0 : Int) ≤ _; decide⟩
  | succ l ih => exact mx_tf_b ih m
theorem mx_mul9 {a b : Int} (ha : 0 ≤ a ∧ a ≤ 1000000000) (hb : 0 ≤ b ∧ b ≤ 1000000000) : 0 ≤ a * b ∧ a * b ≤ 1000000000000000000 := by
  refine ⟨Int.mul_nonneg ha.1 hb.1, ?_⟩
  have := Int.mul_le_mul ha.2 hb.2 hb.1 (by decide)
  omega
section
variable {t n : Nat} {σ μ : am_M}
theorem si_treesBy_s (hg : mx_gd μ) (d : Nat) {τ : am_M} (hc : ∀ i, i ≤ 12 → τ i = μ i) (b : Nat) (hb : b = 31 ∨ b = 32) (h3 : τ 29 3 = b) {p : Nat → Int} (hp : ∀ i, 0 ≤ p i ∧ p i ≤ 1000000000) (hpb : ∀ i : Nat, i < 64 → τ b i = p i) (e : Nat) (he : (e : Int) < μ 2 3) (hH : μ 9 e ≠ -1) :
    si_treesBy (d + 1) e τ n = some (mx_tw (μ 5) (μ 7) (μ 8) p e, τ, n) := by
  have h64 := hg.2.1
  have w2 := hg.1.2.1
  have E : (0 : Int) ≤ e ∧ (e : Int) < 64 := ⟨by omega, by omega⟩
  have s := hg.1.2.2.1.1 e he hH
  have lb : ∀ (j : Int) (x : Option am_R), 0 ≤ j → j < 64 → am_ix (b : Int) j x = x := fun j x a c => by rcases hb with q | q <;> subst q; exact ix_31 a c; exact ix_32 a c
  have l31 : ∀ s0 : Int, 0 ≤ s0 ∧ s0 ≤ 1000000000 → si_treesBy_31 d e s0 τ n = some (am_mn 1000000000 (s0 * (if μ 8 e = -1 then 1 else p (μ 8 e).toNat)), τ, n) := by
    intro s0 hs
    rw [si_treesBy_31_e, ix_8 E.1 E.2, ix_8 E.1 E.2, Int.toNat_natCast, hc 8 (by decide)]
    by_cases q : μ 8 e = -1
    · rw [if_pos q, if_pos q, mx_x_id (by omega) (by omega)]
    · have y : 0 ≤ μ 8 e ∧ μ 8 e < 64 := by rcases s.2.2 with z | z; exact absurd z q; exact ⟨z.1, by omega⟩
      have m := mx_mul9 hs (hp (μ 8 e).toNat)
      rw [if_neg q, if_neg q, h3, lb _ _ y.1 y.2, Int.toNat_natCast, hpb _ (by omega), mx_x_id (by omega) (by omega)]
  rw [si_treesBy_e, ix_7 E.1 E.2, ix_7 E.1 E.2, Int.toNat_natCast, hc 7 (by decide)]
  unfold mx_tw
  by_cases q : μ 7 e = -1
  · rw [if_pos q, if_pos q]
    exact l31 1 ⟨by decide, by decide⟩
  · have y : 0 ≤ μ 7 e ∧ μ 7 e < 64 := by rcases s.2.1 with z | z; exact absurd z q; exact ⟨z.1, by omega⟩
    rw [if_neg q, if_neg q, h3, lb _ _ y.1 y.2, Int.toNat_natCast, hpb _ (by omega)]
    exact l31 _ (hp _)
theorem si_treesOf_46_s (hg : mx_gd μ) (d : Nat) (v1 v2 v3 : Int) (a b : Nat) (hab : (a = 31 ∧ b = 32) ∨ (a = 32 ∧ b = 31)) {p : Nat → Int} (hp : ∀ i, 0 ≤ p i ∧ p i ≤ 1000000000) : ∀ (k e : Nat) (τ : am_M), (e : Int) + k = μ 2 3 → (∀ i, i ≤ 12 → τ i = μ i) → τ 29 2 = a → τ 29 3 = b → (∀ i : Nat, i < 64 → τ b i = p i) → (∀ i : Nat, i < 64 → τ a i = mx_tf (μ 5) (μ 7) (μ 8) (μ 9) p e i) →
    ∃ τ' : am_M, si_treesOf_46 (d + 1) v1 v2 v3 e τ n = si_treesOf_10 (d + 1) v1 v2 (am_w (v3 + 1)) τ' n ∧ mx_Fr [a] τ τ' ∧ ∀ i : Nat, i < 64 → τ' a i = mx_tf (μ 5) (μ 7) (μ 8) (μ 9) p (μ 2 3).toNat i := by
  have h64 := hg.2.1
  have w2 := hg.1.2.1
  have la : ∀ (j : Int) (x : Option am_R), 0 ≤ j → j < 64 → am_ix (a : Int) j x = x := fun j x h1 c => by rcases hab with ⟨q, -⟩ | ⟨q, -⟩ <;> subst q; exact ix_31 h1 c; exact ix_32 h1 c
  have ba : b ≠ a := by omega
  have ha12 : ∀ i, i ≤ 12 → i ≠ a := fun i h => by omega
  intro k
  induction k with
  | zero =>
    intro e τ hk hc h2 h3 hpb hpa
    have ee : (μ 2 3).toNat = e := by omega
    refine ⟨τ, by rw [si_treesOf_46_e, hc 2 (by decide), if_neg (by omega)], mx_fr_rf, fun i hi => by rw [ee]; exact hpa i hi⟩
  | succ k ih =>
    intro e τ hk hc h2 h3 hpb hpa
    have E : (0 : Int) ≤ e ∧ (e : Int) < 64 := ⟨by omega, by omega⟩
    rw [si_treesOf_46_e, hc 2 (by decide), if_pos (by omega), ix_9 E.1 E.2, Int.toNat_natCast, hc 9 (by decide), mx_w_nat (by omega)]
    by_cases hH : μ 9 e = -1
    · rw [if_pos hH]
      refine ih (e + 1) τ (by omega) hc h2 h3 hpb (fun i hi => ?_)
      rw [mx_tf_S, if_neg (by omega)]
      exact hpa i hi
    · have s := (hg.1.2.2.1.1 e (by omega) hH).1
      have S : 0 ≤ μ 9 e ∧ μ 9 e < 64 := ⟨s.1, by omega⟩
      have tw := mx_tw_b (K := μ 5) (X := μ 7) (Y := μ 8) hp e
      have tb := mx_tf_b (K := μ 5) (X := μ 7) (Y := μ 8) (H := μ 9) hp e (μ 9 e).toNat
      rw [if_neg hH, h2, la _ _ S.1 S.2, si_treesBy_s hg d hc b (by omega) h3 hp hpb e (by omega) hH, Option.bind_some, la _ _ S.1 S.2, mx_m, Int.toNat_natCast]
      dsimp only
      rw [hpa _ (by omega), mx_x_id (by omega) (by omega)]
      obtain ⟨τ', q1, q2, q3⟩ := ih (e + 1) (am_wr τ a (μ 9 e).toNat (am_mn 1000000000 (mx_tf (μ 5) (μ 7) (μ 8) (μ 9) p e (μ 9 e).toNat + mx_tw (μ 5) (μ 7) (μ 8) p e))) (by omega) (fun i hi => by rw [mx_wr_ne (ha12 i hi)]; exact hc i hi) (by rw [mx_wr_ne (by omega)]; exact h2) (by rw [mx_wr_ne (by omega)]; exact h3) (fun i hi => by rw [mx_wr_ne ba]; exact hpb i hi) (fun i hi => by
        rw [mx_tf_S, mx_wr_if]
        by_cases q : i = (μ 9 e).toNat
        · subst q
          rw [if_pos rfl, if_pos (by omega)]
        · rw [if_neg q, if_neg (by omega)]; exact hpa i hi)
      exact ⟨τ', q1, mx_fr_tr mx_fr_w1 q2, q3⟩
theorem si_treesOf_10_s (hg : mx_gd μ) (d : Nat) (v1 : Nat) (hv1 : v1 < 64) (L : Nat) (hL : L ≤ 12) : ∀ (k l : Nat) (a b : Nat) (τ : am_M), l + k = L → ((a = 31 ∧ b = 32) ∨ (a = 32 ∧ b = 31)) → (∀ i, i ≤ 12 → τ i = μ i) → τ 29 2 = a → τ 29 3 = b → (∀ i : Nat, i < 64 → τ a i = mx_TL (μ 5) (μ 7) (μ 8) (μ 9) (μ 2 3).toNat l i) →
    ∃ τ' : am_M, si_treesOf_10 (d + 1) v1 L l τ n = some (mx_TL (μ 5) (μ 7) (μ 8) (μ 9) (μ 2 3).toNat L v1, τ', n) ∧ mx_Fq [31, 32] [(29, 2), (29, 3)] τ τ' ∧ ((τ' 29 2 = 31 ∧ τ' 29 3 = 32) ∨ (τ' 29 2 = 32 ∧ τ' 29 3 = 31)) := by
  have h64 := hg.2.1
  have w2 := hg.1.2.1
  intro k
  induction k with
  | zero =>
    intro l a b τ hk hab hc h2 h3 hT
    have e : l = L := by omega
    subst e
    have tb := mx_TL_b (K := μ 5) (X := μ 7) (Y := μ 8) (H := μ 9) (m := (μ 2 3).toNat) l v1
    have la : ∀ (j : Int) (x : Option am_R), 0 ≤ j → j < 64 → am_ix (a : Int) j x = x := fun j x h1 c => by rcases hab with ⟨q, -⟩ | ⟨q, -⟩ <;> subst q; exact ix_31 h1 c; exact ix_32 h1 c
    refine ⟨τ, ?_, fun _ _ _ _ => rfl, ?_⟩
    · rw [si_treesOf_10_e, if_neg (by omega), h2, la _ _ (by omega) (by omega), Int.toNat_natCast, Int.toNat_natCast, hT v1 hv1, mx_w_id (by omega) (by omega)]
    · rw [h2, h3]
      rcases hab with ⟨rfl, rfl⟩ | ⟨rfl, rfl⟩
      · exact Or.inl ⟨rfl, rfl⟩
      · exact Or.inr ⟨rfl, rfl⟩
  | succ k ih =>
    intro l a b τ hk hab hc h2 h3 hT
    have hba : (b = 31 ∧ a = 32) ∨ (b = 32 ∧ a = 31) := by omega
    obtain ⟨τ1, h1⟩ : ∃ τ1, τ1 = am_wr (am_wr τ 29 2 b) 29 3 a := ⟨_, rfl⟩
    have c1 : ∀ i, i ≠ 29 → τ1 i = τ i := fun i q => by rw [h1, mx_wr_ne q, mx_wr_ne q]
    have f2 : τ1 29 2 = b := by rw [h1, mx_wr_off (by decide), mx_wr_at]
    have f3 : τ1 29 3 = a := by rw [h1, mx_wr_at]
    have g1 : mx_Fq [31, 32] [(29, 2), (29, 3)] τ τ1 := by rw [h1]; exact mx_fq_wr (mx_fq_wr mx_fq_rf rfl) rfl
    have lenb : am_len b = 64 := by rcases hba with ⟨q, -⟩ | ⟨q, -⟩ <;> subst q <;> rfl
    obtain ⟨τ2, p1, p2, p3, -⟩ := ar_fill2_s d n b 64 0 τ1 (by omega) lenb (by decide)
    have c2 : ∀ i, i ≠ 29 → i ≠ b → τ2 i = τ i := fun i q1 q2 => by rw [p2 i (by simp only [List.mem_cons, List.not_mem_nil, or_false]; exact q2), c1 i q1]
    have s29 : τ2 29 = τ1 29 := p2 29 (by simp only [List.mem_cons, List.not_mem_nil, or_false]; omega)
    obtain ⟨τ3, q1, q2, q3⟩ := si_treesOf_46_s (n := n) hg d v1 L l b a hba (mx_TL_b (K := μ 5) (X := μ 7) (Y := μ 8) (H := μ 9) (m := (μ 2 3).toNat) l) (μ 2 3).toNat 0 τ2 (by omega) (fun i hi => by rw [c2 i (by omega) (by omega)]; exact hc i hi) (by rw [s29]; exact f2) (by rw [s29]; exact f3) (fun i hi => by rw [c2 a (by omega) (by omega)]; exact hT i hi) (fun i hi => p3 i hi)
    have c3 : ∀ i, i ≠ 29 → i ≠ b → τ3 i = τ i := fun i r1 r2 => by rw [q2 i (by simp only [List.mem_cons, List.not_mem_nil, or_false]; exact r2), c2 i r1 r2]
    have s29' : τ3 29 = τ1 29 := by rw [q2 29 (by simp only [List.mem_cons, List.not_mem_nil, or_false]; omega), s29]
    obtain ⟨τ', r1, r2, r3⟩ := ih (l + 1) b a τ3 (by omega) hba (fun i hi => by rw [c3 i (by omega) (by omega)]; exact hc i hi) (by rw [s29']; exact f2) (by rw [s29']; exact f3) q3
    have fb : ∀ {x y : am_M}, mx_Fr [b] x y → mx_Fq [31, 32] [(29, 2), (29, 3)] x y := fun h => mx_fq_up (mx_fq_of h) (by rcases hba with ⟨q, -⟩ | ⟨q, -⟩ <;> subst q <;> rfl)
    refine ⟨τ', ?_, mx_fq_tr g1 (mx_fq_tr (fb p2) (mx_fq_tr (fb q2) r2)), r3⟩
    rw [si_treesOf_10_e, if_pos (by omega), mx_m, mx_m, h3, h2, ← h1, f2, p1, Option.bind_some]
    exact q1.trans (by rw [mx_w_nat (by omega)]; exact r1)
/-! the reference's trees -/
theorem mo_trees_34_s (d : Nat) (v1 v2 : Int) : ∀ (k i : Nat) (τ : am_M), (i : Int) + k = τ 82 2 → τ 82 2 ≤ 64 → (∀ j : Nat, j < i → τ 139 j = 0) → ∃ τ' : am_M, mo_trees_34 d v1 v2 i τ n = mo_trees_57 d v1 v2 0 τ' n ∧ mx_Fr [139] τ τ' ∧ ∀ j : Nat, (j : Int) < τ 82 2 → τ' 139 j = 0 := by
  intro k
  induction k with
  | zero =>
    intro i τ hi hg hj
    exact ⟨τ, by rw [mo_trees_34_e, if_neg (by omega)], mx_fr_rf, fun j h => hj j (by omega)⟩
  | succ k ih =>
    intro i τ hi hg hj
    obtain ⟨τ', p1, p2, p3⟩ := ih (i + 1) (am_wr τ 139 i 0) (by rw [mx_wr_ne (by decide)]; omega) (by rw [mx_wr_ne (by decide)]; exact hg) (fun j h => by
      rw [mx_wr_if]
      by_cases q : j = i
      · rw [if_pos q]
      · rw [if_neg q]; exact hj j (by omega))
    rw [mx_wr_ne (by decide)] at p3
    refine ⟨τ', ?_, mx_fr_tr mx_fr_w1 p2, p3⟩
    rw [mo_trees_34_e, if_pos (by omega), ix_139 (by omega) (by omega), mx_m, Int.toNat_natCast, mx_w_nat (by omega)]
    exact p1
theorem mo_trees_65_s (d : Nat) (v1 v2 v3 : Int) : ∀ (k i : Nat) (τ : am_M), (i : Int) + k = τ 82 2 → τ 82 2 ≤ 64 → (∀ j : Nat, j < i → τ 140 j = 0) → ∃ τ' : am_M, mo_trees_65 d v1 v2 v3 i τ n = mo_trees_91 d v1 v2 v3 0 τ' n ∧ mx_Fr [140] τ τ' ∧ ∀ j : Nat, (j : Int) < τ 82 2 → τ' 140 j = 0 := by
  intro k
  induction k with
  | zero =>
    intro i τ hi hg hj
    exact ⟨τ, by rw [mo_trees_65_e, if_neg (by omega)], mx_fr_rf, fun j h => hj j (by omega)⟩
  | succ k ih =>
    intro i τ hi hg hj
    obtain ⟨τ', p1, p2, p3⟩ := ih (i + 1) (am_wr τ 140 i 0) (by rw [mx_wr_ne (by decide)]; omega) (by rw [mx_wr_ne (by decide)]; exact hg) (fun j h => by
      rw [mx_wr_if]
      by_cases q : j = i
      · rw [if_pos q]
      · rw [if_neg q]; exact hj j (by omega))
    rw [mx_wr_ne (by decide)] at p3
    refine ⟨τ', ?_, mx_fr_tr mx_fr_w1 p2, p3⟩
    rw [mo_trees_65_e, if_pos (by omega), ix_140 (by omega) (by omega), mx_m, Int.toNat_natCast, mx_w_nat (by omega)]
    exact p1
theorem mo_trees_249_s (d : Nat) (v1 v2 v3 : Int) : ∀ (k i : Nat) (τ : am_M), (i : Int) + k = τ 82 2 → τ 82 2 ≤ 64 → (∀ j : Nat, j < i → τ 139 j = τ 140 j) → ∃ τ' : am_M, mo_trees_249 d v1 v2 v3 i τ n = mo_trees_57 d v1 v2 (am_w (v3 + 1)) τ' n ∧ mx_Fr [139] τ τ' ∧ ∀ j : Nat, (j : Int) < τ 82 2 → τ' 139 j = τ 140 j := by
  intro k
  induction k with
  | zero =>
    intro i τ hi hg hj
    exact ⟨τ, by rw [mo_trees_249_e, if_neg (by omega)], mx_fr_rf, fun j h => hj j (by omega)⟩
  | succ k ih =>
    intro i τ hi hg hj
    obtain ⟨τ', p1, p2, p3⟩ := ih (i + 1) (am_wr τ 139 i (τ 140 i)) (by rw [mx_wr_ne (by decide)]; omega) (by rw [mx_wr_ne (by decide)]; exact hg) (fun j h => by
      rw [mx_wr_if, mx_wr_ne (by decide)]
      by_cases q : j = i
      · rw [if_pos q, q]
      · rw [if_neg q]; exact hj j (by omega))
    rw [mx_wr_ne (by decide), mx_wr_ne (by decide)] at p3
    refine ⟨τ', ?_, mx_fr_tr mx_fr_w1 p2, p3⟩
    rw [mo_trees_249_e, if_pos (by omega), ix_140 (by omega) (by omega), ix_139 (by omega) (by omega), mx_m, Int.toNat_natCast, mx_w_nat (by omega)]
    exact p1
theorem mo_trees_91_s (hg : mx_gd μ) (d : Nat) (v1 v2 v3 : Int) {p : Nat → Int} (hp : ∀ i, 0 ≤ p i ∧ p i ≤ 1000000000) : ∀ (k e : Nat) (τ : am_M), (e : Int) + k = μ 2 3 → mx_rl μ τ → (∀ i : Nat, (i : Int) < μ 2 9 → τ 139 i = p i) → (∀ i : Nat, (i : Int) < μ 2 9 → τ 140 i = mx_tf (μ 5) (μ 7) (μ 8) (μ 9) p e i) →
    ∃ τ' : am_M, mo_trees_91 (d + 1) v1 v2 v3 e τ n = mo_trees_249 (d + 1) v1 v2 v3 0 τ' n ∧ mx_Fr [140] τ τ' ∧ ∀ i : Nat, (i : Int) < μ 2 9 → τ' 140 i = mx_tf (μ 5) (μ 7) (μ 8) (μ 9) p (μ 2 3).toNat i := by
  have h64 := hg.2.1
  have w2 := hg.1.2.1
  intro k
  induction k with
  | zero =>
    intro e τ hk hr h9 h0
    have ee : (μ 2 3).toNat = e := by omega
    have c82 : τ 82 1 = μ 2 3 := hr.1.2.2.1
    refine ⟨τ, by rw [mo_trees_91_e, if_neg (by omega)], mx_fr_rf, fun i hi => by rw [ee]; exact h0 i hi⟩
  | succ k ih =>
    intro e τ hk hr h9 h0
    have E : (0 : Int) ≤ e ∧ (e : Int) < 144 := ⟨by omega, by omega⟩
    have he : (e : Int) < μ 2 3 := by omega
    have c82 : τ 82 1 = μ 2 3 := hr.1.2.2.1
    have pos : (e : Int) < τ 82 1 := by omega
    have wn : am_w ((e : Int) + 1) = ((e + 1 : Nat) : Int) := mx_w_nat (by omega)
    obtain ⟨a1, a2, a3, a4⟩ := hr.1.1 e he
    rw [mo_trees_91_e, if_pos pos, ix_95 E.1 E.2, Int.toNat_natCast, a3]
    by_cases hH : μ 9 e = -1
    · rw [if_pos hH, if_neg (by decide), wn]
      refine ih (e + 1) τ (by omega) hr h9 (fun i hi => ?_)
      rw [mx_tf_S, if_neg (by omega)]
      exact h0 i hi
    · obtain ⟨q1, q2, q3, q4, q5⟩ := a4 hH
      have s := hg.1.2.2.1.1 e he hH
      have kd := (hg.1.2.2.2.1 e he)
      have kk := kd.2.2.2.2.2 hH
      have H : 0 ≤ μ 9 e ∧ μ 9 e < 144 := ⟨s.1.1, by omega⟩
      have Hn : ((μ 9 e).toNat : Int) < μ 2 9 := by omega
      have e9 := h0 _ Hn
      have tw := mx_tw_b (K := μ 5) (X := μ 7) (Y := μ 8) hp e
      have tb := mx_tf_b (K := μ 5) (X := μ 7) (Y := μ 8) (H := μ 9) hp e (μ 9 e).toNat
      rw [if_neg hH, if_pos rfl]
      clear a3 a4
      have l197 : mo_trees_197 (d + 1) v1 v2 v3 e (mx_tw (μ 5) (μ 7) (μ 8) p e) τ n = mo_trees_91 (d + 1) v1 v2 v3 ((e + 1 : Nat) : Int) (am_wr τ 140 (μ 9 e).toNat (am_mn 1000000000 (mx_tf (μ 5) (μ 7) (μ 8) (μ 9) p e (μ 9 e).toNat + mx_tw (μ 5) (μ 7) (μ 8) p e))) n := by
        rw [mo_trees_197_e, ix_93 E.1 E.2, Int.toNat_natCast, mo_root_r hr.1 d n _ q1.1 q1.2.1, Option.bind_some]
        dsimp only
        rw [ix_93 E.1 E.2, mo_root_r hr.1 d n _ q1.1 q1.2.1, Option.bind_some, q1.2.2]
        dsimp only
        rw [ix_140 H.1 H.2, ix_140 H.1 H.2, mx_m, e9, mx_x_id (by omega) (by omega), wn]
      have go : ∃ τ' : am_M, mo_trees_197 (d + 1) v1 v2 v3 e (mx_tw (μ 5) (μ 7) (μ 8) p e) τ n = mo_trees_249 (d + 1) v1 v2 v3 0 τ' n ∧ mx_Fr [140] τ τ' ∧ ∀ i : Nat, (i : Int) < μ 2 9 → τ' 140 i = mx_tf (μ 5) (μ 7) (μ 8) (μ 9) p (μ 2 3).toNat i := by
        obtain ⟨τ', p1, p2, p3⟩ := ih (e + 1) (am_wr τ 140 (μ 9 e).toNat (am_mn 1000000000 (mx_tf (μ 5) (μ 7) (μ 8) (μ 9) p e (μ 9 e).toNat + mx_tw (μ 5) (μ 7) (μ 8) p e))) (by omega) (mx_rl_fr hr (fun i j x1 x2 => by rw [mx_wr_ne (by omega)]) (fun j _ => by rw [mx_wr_ne (by decide)])) (fun i hi => by rw [mx_wr_ne (by decide)]; exact h9 i hi) (fun i hi => by
          rw [mx_tf_S, mx_wr_if]
          by_cases q : i = (μ 9 e).toNat
          · subst q
            rw [if_pos rfl, if_pos (by omega)]
          · rw [if_neg q, if_neg (by omega)]; exact h0 i hi)
        exact ⟨τ', l197.trans p1, mx_fr_tr mx_fr_w1 p2, p3⟩
      have xg : μ 7 e ≠ -1 → 0 ≤ μ 7 e ∧ μ 7 e < 144 ∧ ((μ 7 e).toNat : Int) < μ 2 9 := fun q => by rcases s.2.1 with z | z; exact absurd z q; exact ⟨z.1, by omega, by omega⟩
      have yg : μ 8 e ≠ -1 → 0 ≤ μ 8 e ∧ μ 8 e < 144 ∧ ((μ 8 e).toNat : Int) < μ 2 9 := fun q => by rcases s.2.2 with z | z; exact absurd z q; exact ⟨z.1, by omega, by omega⟩
      rw [ix_89 E.1 E.2, ix_89 E.1 E.2, a1]
      by_cases k1 : μ 5 e = 1
      · have x1 := kk.1.mp k1
        have y1 := kk.2.mp (by rw [k1]; decide)
        have ew : mx_tw (μ 5) (μ 7) (μ 8) p e = 1 := by unfold mx_tw; rw [if_pos x1, if_pos y1]; rfl
        rw [if_pos k1, ← ew]; exact go
      · have x1 : μ 7 e ≠ -1 := fun q => k1 (kk.1.mpr q)
        obtain ⟨X1, X2, X3⟩ := xg x1
        have qx := q2 k1
        rw [if_neg k1, ix_91 E.1 E.2, ix_91 E.1 E.2, mo_root_r hr.1 d n _ qx.1 qx.2.1, Option.bind_some, Option.bind_some, qx.2.2]
        dsimp only
        rw [ix_139 X1 X2, ix_139 X1 X2, h9 _ X3]
        by_cases k5 : μ 5 e < 5
        · have y1 := kk.2.mp k5
          have bp := hp (μ 7 e).toNat
          have ew : mx_tw (μ 5) (μ 7) (μ 8) p e = p (μ 7 e).toNat := by
            unfold mx_tw
            rw [if_neg x1, if_pos y1, Int.mul_one]
            unfold am_mn
            split <;> omega
          rw [if_pos k5, ← ew]; exact go
        · have y1 : μ 8 e ≠ -1 := fun q => k5 (kk.2.mpr q)
          obtain ⟨Y1, Y2, Y3⟩ := yg y1
          have qy := q4 (by omega)
          have m := mx_mul9 (hp (μ 7 e).toNat) (hp (μ 8 e).toNat)
          have ew : mx_tw (μ 5) (μ 7) (μ 8) p e = am_mn 1000000000 (p (μ 7 e).toNat * p (μ 8 e).toNat) := by unfold mx_tw; rw [if_neg x1, if_neg y1]
          rw [if_neg k5, ix_92 E.1 E.2, mo_root_r hr.1 d n _ qy.1 qy.2.1, Option.bind_some, qy.2.2]
          dsimp only
          rw [ix_139 Y1 Y2, h9 _ Y3, mx_x_id (by omega) (by omega), ← ew]; exact go
theorem mo_trees_57_s (hg : mx_gd μ) (d : Nat) (v1 : Int) (hv1 : 0 ≤ v1 ∧ v1 < μ 2 9) (L : Nat) (hL : L ≤ 12) : ∀ (k l : Nat) (τ : am_M), l + k = L → mx_rl μ τ → (∀ i : Nat, (i : Int) < μ 2 9 → τ 139 i = mx_TL (μ 5) (μ 7) (μ 8) (μ 9) (μ 2 3).toNat l i) →
    ∃ τ' : am_M, mo_trees_57 (d + 1) v1 L l τ n = some (mx_TL (μ 5) (μ 7) (μ 8) (μ 9) (μ 2 3).toNat L (μ 10 v1.toNat).toNat, τ', n) ∧ mx_Fr [139, 140] τ τ' := by
  have h64 := hg.2.1
  have w2 := hg.1.2.1
  intro k
  induction k with
  | zero =>
    intro l τ hk hr hT
    have e : l = L := by omega
    subst e
    have s := hg.1.2.2.1.2 v1.toNat (by omega)
    have tb := mx_TL_b (K := μ 5) (X := μ 7) (Y := μ 8) (H := μ 9) (m := (μ 2 3).toNat) l (μ 10 v1.toNat).toNat
    refine ⟨τ, ?_, mx_fr_rf⟩
    rw [mo_trees_57_e, if_neg (by omega), mo_root_r hr.1 d n v1 hv1.1 hv1.2, Option.bind_some]
    dsimp only
    rw [ix_139 s.1 (by omega), hT _ (by omega), mx_w_id (by omega) (by omega)]
  | succ k ih =>
    intro l τ hk hr hT
    have c2 : τ 82 2 = μ 2 9 := hr.1.2.2.2.1
    obtain ⟨τ1, a1, a2, a3⟩ := mo_trees_65_s (n := n) (d + 1) v1 L l (μ 2 9).toNat 0 τ (by omega) (by omega) (fun j hj => by omega)
    rw [c2] at a3
    have rlf : ∀ {x y : am_M}, mx_rl μ x → mx_Fr [139, 140] x y → mx_rl μ y := fun h f => mx_rl_fr h (fun i j p1 p2 => congrFun (f i (by simp only [List.mem_cons, List.not_mem_nil, or_false, not_or]; omega)) j) (fun j _ => congrFun (f 82 (by decide)) j)
    have up0 : ∀ {x y : am_M}, mx_Fr [140] x y → mx_Fr [139, 140] x y := fun f => mx_fr_up f (by decide)
    have up9 : ∀ {x y : am_M}, mx_Fr [139] x y → mx_Fr [139, 140] x y := fun f => mx_fr_up f (by decide)
    have r1 := rlf hr (up0 a2)
    obtain ⟨τ2, b1, b2, b3⟩ := mo_trees_91_s (n := n) hg d v1 L l (mx_TL_b (K := μ 5) (X := μ 7) (Y := μ 8) (H := μ 9) (m := (μ 2 3).toNat) l) (μ 2 3).toNat 0 τ1 (by omega) r1 (fun i hi => by rw [a2 139 (by decide)]; exact hT i hi) (fun i hi => a3 i hi)
    have r2 := rlf r1 (up0 b2)
    have c3 : τ2 82 2 = μ 2 9 := r2.1.2.2.2.1
    obtain ⟨τ3, d1, d2, d3⟩ := mo_trees_249_s (n := n) (d + 1) v1 L l (μ 2 9).toNat 0 τ2 (by omega) (by omega) (fun j hj => by omega)
    rw [c3] at d3
    have r3 := rlf r2 (up9 d2)
    obtain ⟨τ', e1, e2⟩ := ih (l + 1) τ3 (by omega) r3 (fun i hi => by rw [d3 i hi]; exact b3 i hi)
    refine ⟨τ', ?_, mx_fr_tr (up0 a2) (mx_fr_tr (up0 b2) (mx_fr_tr (up9 d2) e2))⟩
    rw [mo_trees_57_e, if_pos (by omega)]
    exact a1.trans (b1.trans (d1.trans (by rw [mx_w_nat (by omega)]; exact e1)))
theorem trees_c (hI : mx_Inv t n σ) (d : Nat) (v1 v2 : Int) : mx_C t n σ (fun σ n => pm_trees (d + 5) v1 v2 σ n) (fun σ n => mo_trees (d + 5) v1 v2 σ n) := by
  have hb := mx_I_b hI
  have hg := mx_I_gd hI
  have e82 : ∀ k, (mx_rf σ k) 82 2 = σ 2 9 := fun k => by rw [mx_rf_ne (by decide)]; exact hb.2.2.2
  by_cases h1 : 0 ≤ v1 ∧ v1 < σ 2 9
  · by_cases h2 : 0 ≤ v2 ∧ v2 ≤ 12
    · obtain ⟨L, rfl⟩ : ∃ L : Nat, v2 = L := ⟨v2.toNat, by omega⟩
      have hL : L ≤ 12 := by omega
      have hA := mx_I_A hI
      have s := hg.1.2.2.1.2 v1.toNat (by omega)
      obtain ⟨r, hr⟩ : ∃ r : Nat, σ 10 v1.toNat = r := ⟨(σ 10 v1.toNat).toNat, by omega⟩
      have hr64 : r < 64 := by omega
      -- the class
      have cls : ∃ τ : am_M, si_treesOf (d + 4) r L σ n = some (mx_TL (σ 5) (σ 7) (σ 8) (σ 9) (σ 2 3).toNat L r, τ, n) ∧ mx_Fq [31, 32] [(29, 2), (29, 3)] σ τ ∧ ((τ 29 2 = 31 ∧ τ 29 3 = 32) ∨ (τ 29 2 = 32 ∧ τ 29 3 = 31)) := by
        obtain ⟨a, b, hab, ha, hbb⟩ : ∃ a b : Nat, ((a = 31 ∧ b = 32) ∨ (a = 32 ∧ b = 31)) ∧ σ 29 2 = a ∧ σ 29 3 = b := by
          rcases hA.2.2.2.2.2 with ⟨x, y⟩ | ⟨x, y⟩
          · exact ⟨31, 32, Or.inl ⟨rfl, rfl⟩, x, y⟩
          · exact ⟨32, 31, Or.inr ⟨rfl, rfl⟩, x, y⟩
        have lena : am_len a = 64 := by rcases hab with ⟨q, -⟩ | ⟨q, -⟩ <;> subst q <;> rfl
        obtain ⟨τ1, p1, p2, p3, -⟩ := ar_fill2_s (d + 2) n a 64 0 σ (by omega) lena (by decide)
        have s29 : τ1 29 = σ 29 := p2 29 (by simp only [List.mem_cons, List.not_mem_nil, or_false]; omega)
        obtain ⟨τ, q1, q2, q3⟩ := si_treesOf_10_s (n := n) hg (d + 2) r hr64 L hL L 0 a b τ1 (by omega) hab (fun i hi => p2 i (by simp only [List.mem_cons, List.not_mem_nil, or_false]; omega)) (by rw [s29]; exact ha) (by rw [s29]; exact hbb) (fun i hi => p3 i hi)
        refine ⟨τ, ?_, mx_fq_tr (mx_fq_up (mx_fq_of p2) (by rcases hab with ⟨q, -⟩ | ⟨q, -⟩ <;> subst q <;> rfl)) q2, q3⟩
        rw [si_treesOf_e, ha, p1, Option.bind_some]
        exact q1
      obtain ⟨τ, p1, p2, p3⟩ := cls
      have k : ∀ i, i ≠ 31 → i ≠ 32 → i ≠ 29 → τ i = σ i := fun i a b c => funext fun j => p2 i j (by simp only [List.mem_cons, List.not_mem_nil, or_false, not_or]; omega) (by simp only [List.mem_cons, List.not_mem_nil, or_false, not_or, Prod.mk.injEq]; omega)
      have k29 : τ 29 4 = σ 29 4 := p2 29 4 (by decide) (by decide)
      have rl1 : mx_rl σ τ := mx_rl_fr (mx_I_rl hI) (fun i j a b => by rw [k i (by omega) (by omega) (by omega)]) (fun j _ => by rw [k 82 (by decide) (by decide) (by decide)])
      -- the reference
      obtain ⟨τ1, q1, q2, q3⟩ := mo_trees_34_s (n := n) (d + 4) v1 L (σ 2 9).toNat 0 τ (by rw [rl1.1.2.2.2.1]; omega) (by rw [rl1.1.2.2.2.1]; omega) (fun j hj => by omega)
      have rl2 : mx_rl σ τ1 := mx_rl_fr rl1 (fun i j a b => by rw [q2 i (by simp only [List.mem_cons, List.not_mem_nil, or_false]; omega)]) (fun j _ => by rw [q2 82 (by decide)])
      rw [rl1.1.2.2.2.1] at q3
      obtain ⟨τ2, r1, r2⟩ := mo_trees_57_s (n := n) hg (d + 3) v1 h1 L hL L 0 τ1 (by omega) rl2 (fun i hi => q3 i hi)
      rw [hr, Int.toNat_natCast] at r1
      have F2 : mx_Fr [139, 140] τ τ2 := mx_fr_tr (mx_fr_up q2 (by decide)) r2
      have hIτ : mx_Inv (t + 1) n τ := mx_Inv_by hI p2 (hA := Or.inr (mx_IA_of2 (by rw [k 2 (by decide) (by decide) (by decide)]) k29 (by rw [k 33 (by decide) (by decide) (by decide)]) (by rw [k 2 (by decide) (by decide) (by decide)]) (by rw [k 2 (by decide) (by decide) (by decide)]) (by rw [k 37 (by decide) (by decide) (by decide)]) (k 5 (by decide) (by decide) (by decide)) (k 7 (by decide) (by decide) (by decide)) (k 8 (by decide) (by decide) (by decide)) (k 9 (by decide) (by decide) (by decide)) (k 10 (by decide) (by decide) (by decide)) (k 30 (by decide) (by decide) (by decide)) (k 34 (by decide) (by decide) (by decide)) (k 41 (by decide) (by decide) (by decide)) (k 42 (by decide) (by decide) (by decide)) p3 (mx_cR_fr p2 rfl) (fun al dd => mx_wl_fr p2 rfl al dd) (mx_IA_S hA)))
      have hI2 : mx_Inv (t + 1) n τ2 := by
        have g := mx_fq_of F2
        obtain ⟨i1, i2, i3, i4, i5, i6, i7, i8, i9, iA⟩ := hIτ
        exact ⟨mx_I1_fr g rfl i1, mx_I2_fr g rfl i2, mx_I3_fr g rfl i3, mx_I4_fr g rfl i4, mx_I5_fr g rfl i5, mx_I6_fr g rfl i6, mx_I7_fr g rfl i7, mx_I8_fr g rfl i8, mx_I9_fr g rfl i9, mx_IA_fr g rfl iA⟩
      have z1 : ¬ ((L : Int) < 0) := by omega
      have z2 : ¬ (12 < (L : Int)) := by omega
      refine mx_C_of (mx_TL (σ 5) (σ 7) (σ 8) (σ 9) (σ 2 3).toNat L r) τ τ2 ?_ ?_ hI2
      · rw [pm_trees_e, me_isGroup_s, Option.bind_some]
        dsimp only
        rw [mx_bi_p h1, if_neg z1, if_neg z2, me_root_s _ _ _ _ (by omega), if_pos h1, Option.bind_some, hr]
        dsimp only
        rw [p1, Option.bind_some]
      · rw [mo_trees_e, mo_isGroup_s, Option.bind_some, rl1.1.2.2.2.1, mx_bi_p h1, mo_isFrom_s, Option.bind_some, mx_bi_p h2]
        exact q1.trans r1
    · refine mx_C_ref hI 6 (-6) ?_ (by rw [mo_trees_e]; (try simp only [Int.toNat_natCast, mx_fin1]); simp (disch := first | assumption | omega | decide) only [↓if_pos, ↓if_neg, ↓mx_bi_p, ↓mx_bi_n, ↓mx_m, ↓mx_if_t, ↓mx_if_f1, ↓mx_bd (pm_isShelf_s ..), ↓mx_bd (mo_isShelf_s ..), ↓mx_bd (pm_isColumn_s ..), ↓mx_bd (mo_isFrom_s ..), ↓mx_bd (mo_isGroup_s ..), ↓mx_bd (mo_isExpression_s ..), ↓mx_bd (me_isTable_s ..), ↓mx_bd (me_isExpression_s ..), ↓mx_bd (me_isGroup_s ..), ↓mx_bd (pm_isPriced_s ..), ↓mx_bd (pm_isOrder_s ..), ↓mx_bd (pm_isPlace_s ..), ↓mx_bd (mo_isDemand_s ..), ↓mx_bd (pm_isAllowable_s ..), ↓mx_bd (mo_isWay_s ..), ↓mx_bd (pm_refuse_s ..), ↓mx_bd (pm_refuseFar_s ..), ↓mx_bd (mo_no_s ..), ↓mx_bd (mo_noTen_s ..), ↓ix_1, ↓ix_3, ↓ix_4, ↓ix_5, ↓ix_6, ↓ix_7, ↓ix_8, ↓ix_9, ↓ix_10, ↓ix_11, ↓ix_12, ↓ix_13, ↓ix_14, ↓ix_16, ↓ix_17, ↓ix_18, ↓ix_19, ↓ix_20, ↓ix_21, ↓ix_22, ↓ix_23, ↓ix_24, ↓ix_25, ↓ix_26, ↓ix_27, ↓ix_30, ↓ix_31, ↓ix_32, ↓ix_34, ↓ix_35, ↓ix_36, ↓ix_39, ↓ix_40, ↓ix_41, ↓ix_42, ↓ix_44, ↓ix_45, ↓ix_46, ↓ix_47, ↓ix_48, ↓ix_49, ↓ix_50, ↓ix_51, ↓ix_52, ↓ix_53, ↓ix_55, ↓ix_56, ↓ix_57, ↓ix_59, ↓ix_60, ↓ix_61, ↓ix_63, ↓ix_64, ↓ix_65, ↓ix_67, ↓ix_69, ↓ix_71, ↓ix_73, ↓ix_75, ↓ix_77, ↓ix_79, ↓ix_81, ↓ix_83, ↓ix_84, ↓ix_85, ↓ix_86, ↓ix_87, ↓ix_88, ↓ix_89, ↓ix_90, ↓ix_91, ↓ix_92, ↓ix_93, ↓ix_94, ↓ix_95, ↓ix_96, ↓ix_97, ↓ix_98, ↓ix_99, ↓ix_100, ↓ix_101, ↓ix_102, ↓ix_103, ↓ix_104, ↓ix_105, ↓ix_106, ↓ix_107, ↓ix_108, ↓ix_109, ↓ix_110, ↓ix_111, ↓ix_112, ↓ix_113, ↓ix_114, ↓ix_115, ↓ix_116, ↓ix_117, ↓ix_118, ↓ix_119, ↓ix_120, ↓ix_121, ↓ix_122, ↓ix_123, ↓ix_124, ↓ix_125, ↓ix_126, ↓ix_127, ↓ix_128, ↓ix_129, ↓ix_130, ↓ix_131, ↓ix_132, ↓ix_133, ↓ix_134, ↓ix_135, ↓ix_136, ↓ix_137, ↓ix_138, ↓ix_139, ↓ix_140, ↓ix_141, ↓ix_142, ↓ix_143, Option.bind_some, mx_wr_ne, mx_wr_at, mx_wr_off, mx_rf_ne, mx_no_ne, mx_if_t, Int.toNat_natCast, ix_1, ix_3, ix_4, ix_5, ix_6, ix_7, ix_8, ix_9, ix_10, ix_11, ix_12, ix_13, ix_14, ix_16, ix_17, ix_18, ix_19, ix_20, ix_21, ix_22, ix_23, ix_24, ix_25, ix_26, ix_27, ix_30, ix_31, ix_32, ix_34, ix_35, ix_36, ix_39, ix_40, ix_41, ix_42, ix_44, ix_45, ix_46, ix_47, ix_48, ix_49, ix_50, ix_51, ix_52, ix_53, ix_55, ix_56, ix_57, ix_59, ix_60, ix_61, ix_63, ix_64, ix_65, ix_67, ix_69, ix_71, ix_73, ix_75, ix_77, ix_79, ix_81, ix_83, ix_84, ix_85, ix_86, ix_87, ix_88, ix_89, ix_90, ix_91, ix_92, ix_93, ix_94, ix_95, ix_96, ix_97, ix_98, ix_99, ix_100, ix_101, ix_102, ix_103, ix_104, ix_105, ix_106, ix_107, ix_108, ix_109, ix_110, ix_111, ix_112, ix_113, ix_114, ix_115, ix_116, ix_117, ix_118, ix_119, ix_120, ix_121, ix_122, ix_123, ix_124, ix_125, ix_126, ix_127, ix_128, ix_129, ix_130, ix_131, ix_132, ix_133, ix_134, ix_135, ix_136, ix_137, ix_138, ix_139, ix_140, ix_141, ix_142, ix_143, e82]; rfl)
      by_cases q : v2 < 0
      · rw [pm_trees_e]; (try simp only [Int.toNat_natCast, mx_fin1]); simp (disch := first | assumption | omega | decide) only [↓if_pos, ↓if_neg, ↓mx_bi_p, ↓mx_bi_n, ↓mx_m, ↓mx_if_t, ↓mx_if_f1, ↓mx_bd (pm_isShelf_s ..), ↓mx_bd (mo_isShelf_s ..), ↓mx_bd (pm_isColumn_s ..), ↓mx_bd (mo_isFrom_s ..), ↓mx_bd (mo_isGroup_s ..), ↓mx_bd (mo_isExpression_s ..), ↓mx_bd (me_isTable_s ..), ↓mx_bd (me_isExpression_s ..), ↓mx_bd (me_isGroup_s ..), ↓mx_bd (pm_isPriced_s ..), ↓mx_bd (pm_isOrder_s ..), ↓mx_bd (pm_isPlace_s ..), ↓mx_bd (mo_isDemand_s ..), ↓mx_bd (pm_isAllowable_s ..), ↓mx_bd (mo_isWay_s ..), ↓mx_bd (pm_refuse_s ..), ↓mx_bd (pm_refuseFar_s ..), ↓mx_bd (mo_no_s ..), ↓mx_bd (mo_noTen_s ..), ↓ix_1, ↓ix_3, ↓ix_4, ↓ix_5, ↓ix_6, ↓ix_7, ↓ix_8, ↓ix_9, ↓ix_10, ↓ix_11, ↓ix_12, ↓ix_13, ↓ix_14, ↓ix_16, ↓ix_17, ↓ix_18, ↓ix_19, ↓ix_20, ↓ix_21, ↓ix_22, ↓ix_23, ↓ix_24, ↓ix_25, ↓ix_26, ↓ix_27, ↓ix_30, ↓ix_31, ↓ix_32, ↓ix_34, ↓ix_35, ↓ix_36, ↓ix_39, ↓ix_40, ↓ix_41, ↓ix_42, ↓ix_44, ↓ix_45, ↓ix_46, ↓ix_47, ↓ix_48, ↓ix_49, ↓ix_50, ↓ix_51, ↓ix_52, ↓ix_53, ↓ix_55, ↓ix_56, ↓ix_57, ↓ix_59, ↓ix_60, ↓ix_61, ↓ix_63, ↓ix_64, ↓ix_65, ↓ix_67, ↓ix_69, ↓ix_71, ↓ix_73, ↓ix_75, ↓ix_77, ↓ix_79, ↓ix_81, ↓ix_83, ↓ix_84, ↓ix_85, ↓ix_86, ↓ix_87, ↓ix_88, ↓ix_89, ↓ix_90, ↓ix_91, ↓ix_92, ↓ix_93, ↓ix_94, ↓ix_95, ↓ix_96, ↓ix_97, ↓ix_98, ↓ix_99, ↓ix_100, ↓ix_101, ↓ix_102, ↓ix_103, ↓ix_104, ↓ix_105, ↓ix_106, ↓ix_107, ↓ix_108, ↓ix_109, ↓ix_110, ↓ix_111, ↓ix_112, ↓ix_113, ↓ix_114, ↓ix_115, ↓ix_116, ↓ix_117, ↓ix_118, ↓ix_119, ↓ix_120, ↓ix_121, ↓ix_122, ↓ix_123, ↓ix_124, ↓ix_125, ↓ix_126, ↓ix_127, ↓ix_128, ↓ix_129, ↓ix_130, ↓ix_131, ↓ix_132, ↓ix_133, ↓ix_134, ↓ix_135, ↓ix_136, ↓ix_137, ↓ix_138, ↓ix_139, ↓ix_140, ↓ix_141, ↓ix_142, ↓ix_143, Option.bind_some, mx_wr_ne, mx_wr_at, mx_wr_off, mx_rf_ne, mx_no_ne, mx_if_t, Int.toNat_natCast, ix_1, ix_3, ix_4, ix_5, ix_6, ix_7, ix_8, ix_9, ix_10, ix_11, ix_12, ix_13, ix_14, ix_16, ix_17, ix_18, ix_19, ix_20, ix_21, ix_22, ix_23, ix_24, ix_25, ix_26, ix_27, ix_30, ix_31, ix_32, ix_34, ix_35, ix_36, ix_39, ix_40, ix_41, ix_42, ix_44, ix_45, ix_46, ix_47, ix_48, ix_49, ix_50, ix_51, ix_52, ix_53, ix_55, ix_56, ix_57, ix_59, ix_60, ix_61, ix_63, ix_64, ix_65, ix_67, ix_69, ix_71, ix_73, ix_75, ix_77, ix_79, ix_81, ix_83, ix_84, ix_85, ix_86, ix_87, ix_88, ix_89, ix_90, ix_91, ix_92, ix_93, ix_94, ix_95, ix_96, ix_97, ix_98, ix_99, ix_100, ix_101, ix_102, ix_103, ix_104, ix_105, ix_106, ix_107, ix_108, ix_109, ix_110, ix_111, ix_112, ix_113, ix_114, ix_115, ix_116, ix_117, ix_118, ix_119, ix_120, ix_121, ix_122, ix_123, ix_124, ix_125, ix_126, ix_127, ix_128, ix_129, ix_130, ix_131, ix_132, ix_133, ix_134, ix_135, ix_136, ix_137, ix_138, ix_139, ix_140, ix_141, ix_142, ix_143, true_and]; rfl
      · rw [pm_trees_e]; (try simp only [Int.toNat_natCast, mx_fin1]); simp (disch := first | assumption | omega | decide) only [↓if_pos, ↓if_neg, ↓mx_bi_p, ↓mx_bi_n, ↓mx_m, ↓mx_if_t, ↓mx_if_f1, ↓mx_bd (pm_isShelf_s ..), ↓mx_bd (mo_isShelf_s ..), ↓mx_bd (pm_isColumn_s ..), ↓mx_bd (mo_isFrom_s ..), ↓mx_bd (mo_isGroup_s ..), ↓mx_bd (mo_isExpression_s ..), ↓mx_bd (me_isTable_s ..), ↓mx_bd (me_isExpression_s ..), ↓mx_bd (me_isGroup_s ..), ↓mx_bd (pm_isPriced_s ..), ↓mx_bd (pm_isOrder_s ..), ↓mx_bd (pm_isPlace_s ..), ↓mx_bd (mo_isDemand_s ..), ↓mx_bd (pm_isAllowable_s ..), ↓mx_bd (mo_isWay_s ..), ↓mx_bd (pm_refuse_s ..), ↓mx_bd (pm_refuseFar_s ..), ↓mx_bd (mo_no_s ..), ↓mx_bd (mo_noTen_s ..), ↓ix_1, ↓ix_3, ↓ix_4, ↓ix_5, ↓ix_6, ↓ix_7, ↓ix_8, ↓ix_9, ↓ix_10, ↓ix_11, ↓ix_12, ↓ix_13, ↓ix_14, ↓ix_16, ↓ix_17, ↓ix_18, ↓ix_19, ↓ix_20, ↓ix_21, ↓ix_22, ↓ix_23, ↓ix_24, ↓ix_25, ↓ix_26, ↓ix_27, ↓ix_30, ↓ix_31, ↓ix_32, ↓ix_34, ↓ix_35, ↓ix_36, ↓ix_39, ↓ix_40, ↓ix_41, ↓ix_42, ↓ix_44, ↓ix_45, ↓ix_46, ↓ix_47, ↓ix_48, ↓ix_49, ↓ix_50, ↓ix_51, ↓ix_52, ↓ix_53, ↓ix_55, ↓ix_56, ↓ix_57, ↓ix_59, ↓ix_60, ↓ix_61, ↓ix_63, ↓ix_64, ↓ix_65, ↓ix_67, ↓ix_69, ↓ix_71, ↓ix_73, ↓ix_75, ↓ix_77, ↓ix_79, ↓ix_81, ↓ix_83, ↓ix_84, ↓ix_85, ↓ix_86, ↓ix_87, ↓ix_88, ↓ix_89, ↓ix_90, ↓ix_91, ↓ix_92, ↓ix_93, ↓ix_94, ↓ix_95, ↓ix_96, ↓ix_97, ↓ix_98, ↓ix_99, ↓ix_100, ↓ix_101, ↓ix_102, ↓ix_103, ↓ix_104, ↓ix_105, ↓ix_106, ↓ix_107, ↓ix_108, ↓ix_109, ↓ix_110, ↓ix_111, ↓ix_112, ↓ix_113, ↓ix_114, ↓ix_115, ↓ix_116, ↓ix_117, ↓ix_118, ↓ix_119, ↓ix_120, ↓ix_121, ↓ix_122, ↓ix_123, ↓ix_124, ↓ix_125, ↓ix_126, ↓ix_127, ↓ix_128, ↓ix_129, ↓ix_130, ↓ix_131, ↓ix_132, ↓ix_133, ↓ix_134, ↓ix_135, ↓ix_136, ↓ix_137, ↓ix_138, ↓ix_139, ↓ix_140, ↓ix_141, ↓ix_142, ↓ix_143, Option.bind_some, mx_wr_ne, mx_wr_at, mx_wr_off, mx_rf_ne, mx_no_ne, mx_if_t, Int.toNat_natCast, ix_1, ix_3, ix_4, ix_5, ix_6, ix_7, ix_8, ix_9, ix_10, ix_11, ix_12, ix_13, ix_14, ix_16, ix_17, ix_18, ix_19, ix_20, ix_21, ix_22, ix_23, ix_24, ix_25, ix_26, ix_27, ix_30, ix_31, ix_32, ix_34, ix_35, ix_36, ix_39, ix_40, ix_41, ix_42, ix_44, ix_45, ix_46, ix_47, ix_48, ix_49, ix_50, ix_51, ix_52, ix_53, ix_55, ix_56, ix_57, ix_59, ix_60, ix_61, ix_63, ix_64, ix_65, ix_67, ix_69, ix_71, ix_73, ix_75, ix_77, ix_79, ix_81, ix_83, ix_84, ix_85, ix_86, ix_87, ix_88, ix_89, ix_90, ix_91, ix_92, ix_93, ix_94, ix_95, ix_96, ix_97, ix_98, ix_99, ix_100, ix_101, ix_102, ix_103, ix_104, ix_105, ix_106, ix_107, ix_108, ix_109, ix_110, ix_111, ix_112, ix_113, ix_114, ix_115, ix_116, ix_117, ix_118, ix_119, ix_120, ix_121, ix_122, ix_123, ix_124, ix_125, ix_126, ix_127, ix_128, ix_129, ix_130, ix_131, ix_132, ix_133, ix_134, ix_135, ix_136, ix_137, ix_138, ix_139, ix_140, ix_141, ix_142, ix_143, true_and]; rfl
  · exact mx_C_ref hI 1 (-1) (by rw [pm_trees_e]; (try simp only [Int.toNat_natCast, mx_fin1]); simp (disch := first | assumption | omega | decide) only [↓if_pos, ↓if_neg, ↓mx_bi_p, ↓mx_bi_n, ↓mx_m, ↓mx_if_t, ↓mx_if_f1, ↓mx_bd (pm_isShelf_s ..), ↓mx_bd (mo_isShelf_s ..), ↓mx_bd (pm_isColumn_s ..), ↓mx_bd (mo_isFrom_s ..), ↓mx_bd (mo_isGroup_s ..), ↓mx_bd (mo_isExpression_s ..), ↓mx_bd (me_isTable_s ..), ↓mx_bd (me_isExpression_s ..), ↓mx_bd (me_isGroup_s ..), ↓mx_bd (pm_isPriced_s ..), ↓mx_bd (pm_isOrder_s ..), ↓mx_bd (pm_isPlace_s ..), ↓mx_bd (mo_isDemand_s ..), ↓mx_bd (pm_isAllowable_s ..), ↓mx_bd (mo_isWay_s ..), ↓mx_bd (pm_refuse_s ..), ↓mx_bd (pm_refuseFar_s ..), ↓mx_bd (mo_no_s ..), ↓mx_bd (mo_noTen_s ..), ↓ix_1, ↓ix_3, ↓ix_4, ↓ix_5, ↓ix_6, ↓ix_7, ↓ix_8, ↓ix_9, ↓ix_10, ↓ix_11, ↓ix_12, ↓ix_13, ↓ix_14, ↓ix_16, ↓ix_17, ↓ix_18, ↓ix_19, ↓ix_20, ↓ix_21, ↓ix_22, ↓ix_23, ↓ix_24, ↓ix_25, ↓ix_26, ↓ix_27, ↓ix_30, ↓ix_31, ↓ix_32, ↓ix_34, ↓ix_35, ↓ix_36, ↓ix_39, ↓ix_40, ↓ix_41, ↓ix_42, ↓ix_44, ↓ix_45, ↓ix_46, ↓ix_47, ↓ix_48, ↓ix_49, ↓ix_50, ↓ix_51, ↓ix_52, ↓ix_53, ↓ix_55, ↓ix_56, ↓ix_57, ↓ix_59, ↓ix_60, ↓ix_61, ↓ix_63, ↓ix_64, ↓ix_65, ↓ix_67, ↓ix_69, ↓ix_71, ↓ix_73, ↓ix_75, ↓ix_77, ↓ix_79, ↓ix_81, ↓ix_83, ↓ix_84, ↓ix_85, ↓ix_86, ↓ix_87, ↓ix_88, ↓ix_89, ↓ix_90, ↓ix_91, ↓ix_92, ↓ix_93, ↓ix_94, ↓ix_95, ↓ix_96, ↓ix_97, ↓ix_98, ↓ix_99, ↓ix_100, ↓ix_101, ↓ix_102, ↓ix_103, ↓ix_104, ↓ix_105, ↓ix_106, ↓ix_107, ↓ix_108, ↓ix_109, ↓ix_110, ↓ix_111, ↓ix_112, ↓ix_113, ↓ix_114, ↓ix_115, ↓ix_116, ↓ix_117, ↓ix_118, ↓ix_119, ↓ix_120, ↓ix_121, ↓ix_122, ↓ix_123, ↓ix_124, ↓ix_125, ↓ix_126, ↓ix_127, ↓ix_128, ↓ix_129, ↓ix_130, ↓ix_131, ↓ix_132, ↓ix_133, ↓ix_134, ↓ix_135, ↓ix_136, ↓ix_137, ↓ix_138, ↓ix_139, ↓ix_140, ↓ix_141, ↓ix_142, ↓ix_143, Option.bind_some, mx_wr_ne, mx_wr_at, mx_wr_off, mx_rf_ne, mx_no_ne, mx_if_t, Int.toNat_natCast, ix_1, ix_3, ix_4, ix_5, ix_6, ix_7, ix_8, ix_9, ix_10, ix_11, ix_12, ix_13, ix_14, ix_16, ix_17, ix_18, ix_19, ix_20, ix_21, ix_22, ix_23, ix_24, ix_25, ix_26, ix_27, ix_30, ix_31, ix_32, ix_34, ix_35, ix_36, ix_39, ix_40, ix_41, ix_42, ix_44, ix_45, ix_46, ix_47, ix_48, ix_49, ix_50, ix_51, ix_52, ix_53, ix_55, ix_56, ix_57, ix_59, ix_60, ix_61, ix_63, ix_64, ix_65, ix_67, ix_69, ix_71, ix_73, ix_75, ix_77, ix_79, ix_81, ix_83, ix_84, ix_85, ix_86, ix_87, ix_88, ix_89, ix_90, ix_91, ix_92, ix_93, ix_94, ix_95, ix_96, ix_97, ix_98, ix_99, ix_100, ix_101, ix_102, ix_103, ix_104, ix_105, ix_106, ix_107, ix_108, ix_109, ix_110, ix_111, ix_112, ix_113, ix_114, ix_115, ix_116, ix_117, ix_118, ix_119, ix_120, ix_121, ix_122, ix_123, ix_124, ix_125, ix_126, ix_127, ix_128, ix_129, ix_130, ix_131, ix_132, ix_133, ix_134, ix_135, ix_136, ix_137, ix_138, ix_139, ix_140, ix_141, ix_142, ix_143, true_and]; rfl) (by rw [mo_trees_e]; (try simp only [Int.toNat_natCast, mx_fin1]); simp (disch := first | assumption | omega | decide) only [↓if_pos, ↓if_neg, ↓mx_bi_p, ↓mx_bi_n, ↓mx_m, ↓mx_if_t, ↓mx_if_f1, ↓mx_bd (pm_isShelf_s ..), ↓mx_bd (mo_isShelf_s ..), ↓mx_bd (pm_isColumn_s ..), ↓mx_bd (mo_isFrom_s ..), ↓mx_bd (mo_isGroup_s ..), ↓mx_bd (mo_isExpression_s ..), ↓mx_bd (me_isTable_s ..), ↓mx_bd (me_isExpression_s ..), ↓mx_bd (me_isGroup_s ..), ↓mx_bd (pm_isPriced_s ..), ↓mx_bd (pm_isOrder_s ..), ↓mx_bd (pm_isPlace_s ..), ↓mx_bd (mo_isDemand_s ..), ↓mx_bd (pm_isAllowable_s ..), ↓mx_bd (mo_isWay_s ..), ↓mx_bd (pm_refuse_s ..), ↓mx_bd (pm_refuseFar_s ..), ↓mx_bd (mo_no_s ..), ↓mx_bd (mo_noTen_s ..), ↓ix_1, ↓ix_3, ↓ix_4, ↓ix_5, ↓ix_6, ↓ix_7, ↓ix_8, ↓ix_9, ↓ix_10, ↓ix_11, ↓ix_12, ↓ix_13, ↓ix_14, ↓ix_16, ↓ix_17, ↓ix_18, ↓ix_19, ↓ix_20, ↓ix_21, ↓ix_22, ↓ix_23, ↓ix_24, ↓ix_25, ↓ix_26, ↓ix_27, ↓ix_30, ↓ix_31, ↓ix_32, ↓ix_34, ↓ix_35, ↓ix_36, ↓ix_39, ↓ix_40, ↓ix_41, ↓ix_42, ↓ix_44, ↓ix_45, ↓ix_46, ↓ix_47, ↓ix_48, ↓ix_49, ↓ix_50, ↓ix_51, ↓ix_52, ↓ix_53, ↓ix_55, ↓ix_56, ↓ix_57, ↓ix_59, ↓ix_60, ↓ix_61, ↓ix_63, ↓ix_64, ↓ix_65, ↓ix_67, ↓ix_69, ↓ix_71, ↓ix_73, ↓ix_75, ↓ix_77, ↓ix_79, ↓ix_81, ↓ix_83, ↓ix_84, ↓ix_85, ↓ix_86, ↓ix_87, ↓ix_88, ↓ix_89, ↓ix_90, ↓ix_91, ↓ix_92, ↓ix_93, ↓ix_94, ↓ix_95, ↓ix_96, ↓ix_97, ↓ix_98, ↓ix_99, ↓ix_100, ↓ix_101, ↓ix_102, ↓ix_103, ↓ix_104, ↓ix_105, ↓ix_106, ↓ix_107, ↓ix_108, ↓ix_109, ↓ix_110, ↓ix_111, ↓ix_112, ↓ix_113, ↓ix_114, ↓ix_115, ↓ix_116, ↓ix_117, ↓ix_118, ↓ix_119, ↓ix_120, ↓ix_121, ↓ix_122, ↓ix_123, ↓ix_124, ↓ix_125, ↓ix_126, ↓ix_127, ↓ix_128, ↓ix_129, ↓ix_130, ↓ix_131, ↓ix_132, ↓ix_133, ↓ix_134, ↓ix_135, ↓ix_136, ↓ix_137, ↓ix_138, ↓ix_139, ↓ix_140, ↓ix_141, ↓ix_142, ↓ix_143, Option.bind_some, mx_wr_ne, mx_wr_at, mx_wr_off, mx_rf_ne, mx_no_ne, mx_if_t, Int.toNat_natCast, ix_1, ix_3, ix_4, ix_5, ix_6, ix_7, ix_8, ix_9, ix_10, ix_11, ix_12, ix_13, ix_14, ix_16, ix_17, ix_18, ix_19, ix_20, ix_21, ix_22, ix_23, ix_24, ix_25, ix_26, ix_27, ix_30, ix_31, ix_32, ix_34, ix_35, ix_36, ix_39, ix_40, ix_41, ix_42, ix_44, ix_45, ix_46, ix_47, ix_48, ix_49, ix_50, ix_51, ix_52, ix_53, ix_55, ix_56, ix_57, ix_59, ix_60, ix_61, ix_63, ix_64, ix_65, ix_67, ix_69, ix_71, ix_73, ix_75, ix_77, ix_79, ix_81, ix_83, ix_84, ix_85, ix_86, ix_87, ix_88, ix_89, ix_90, ix_91, ix_92, ix_93, ix_94, ix_95, ix_96, ix_97, ix_98, ix_99, ix_100, ix_101, ix_102, ix_103, ix_104, ix_105, ix_106, ix_107, ix_108, ix_109, ix_110, ix_111, ix_112, ix_113, ix_114, ix_115, ix_116, ix_117, ix_118, ix_119, ix_120, ix_121, ix_122, ix_123, ix_124, ix_125, ix_126, ix_127, ix_128, ix_129, ix_130, ix_131, ix_132, ix_133, ix_134, ix_135, ix_136, ix_137, ix_138, ix_139, ix_140, ix_141, ix_142, ix_143, e82]; rfl)
end
