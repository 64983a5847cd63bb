/-! groups that merge: the model behind it -/
section
variable {tn m g : Int} {TF D K P X Y H T C : Nat → Int} {U X' Y' H' T' : Nat → Int} {a b : Int}
theorem mx_C_clo (hW : mx_W tn m g TF D K P X Y H T C) (hC : C a.toNat = C b.toNat) : mx_clo m g K P X Y H T a b C := by
  obtain ⟨w1, w2, w3, w4, w5, w6, w7, w8, w9⟩ := hW
  refine ⟨fun i j hi hj e => ?_, hC, fun e f he hf hHe hHf hK hP hX hY => ?_⟩
  · rw [← (w8 i hi).1, ← (w8 j hj).1, e]
  · have s1 := (w3.1 e he hHe)
    have s2 := (w3.1 f hf hHf)
    rw [mx_q_nn s1.1.1, mx_q_nn s2.1.1, (w9 e he hHe).1, (w9 f hf hHf).1]
    have k1 := (w4 e he).2.2.2.2.2 hHe
    have k2 := (w4 f hf).2.2.2.2.2 hHf
    have e1 : mx_tc TF C (K e) (P e) (X e) = mx_tc TF C (K f) (P f) (X f) := by
      unfold mx_tc
      rw [hK, hP]
      by_cases q : K f = 1
      · rw [if_pos q, if_pos q]
      · have z1 : 0 ≤ X e := by rcases s1.2.1 with z | z; exact absurd (k1.1.mpr z) (by rw [hK]; exact q); exact z.1
        have z2 : 0 ≤ X f := by rcases s2.2.1 with z | z; exact absurd (k2.1.mpr z) q; exact z.1
        rw [if_neg q, if_neg q, if_pos z1, if_pos z2]
        rw [mx_q_nn z1, mx_q_nn z2] at hX
        exact hX
    have e2 : mx_yc C (Y e) = mx_yc C (Y f) := by
      unfold mx_yc
      by_cases q : K f < 5
      · rw [k1.2.mp (by rw [hK]; exact q), k2.2.mp q]
      · have z1 : 0 ≤ Y e := by rcases s1.2.2 with z | z; exact absurd (k1.2.mpr z) (by rw [hK]; exact q); exact z.1
        have z2 : 0 ≤ Y f := by rcases s2.2.2 with z | z; exact absurd (k2.2.mpr z) q; exact z.1
        rw [if_pos z1, if_pos z2]
        rw [mx_q_nn z1, mx_q_nn z2] at hY
        exact hY
    rw [e1, e2, hK, hP]
theorem mx_C_U (hW : mx_W tn m g TF D K P X Y H T C) (hC : C a.toNat = C b.toNat) (hJ : mx_J m g K P X Y H T a b U) : ∀ i : Nat, (i : Int) < g → C (U i).toNat = C i := by
  intro i hi
  have := hJ.1 i hi
  exact hJ.2.2 C (mx_C_clo hW hC) _ i (by omega) hi this.2.2
theorem mx_q_m1 (hU : ∀ i : Nat, (i : Int) < g → 0 ≤ U i) {v : Int} (hv : v = -1 ∨ (0 ≤ v ∧ v < g)) : mx_q U v = -1 ↔ v = -1 := by
  rcases hv with q | q
  · rw [q, mx_q_neg (by decide)]
  · rw [mx_q_nn q.1]
    have := hU v.toNat (by omega)
    omega
theorem mx_W_merge (hW : mx_W tn m g TF D K P X Y H T C) (hC : C a.toNat = C b.toNat) (hJ : mx_J m g K P X Y H T a b U) (hG : mx_G m K P X Y H U (fun e => H' e = -1)) (hF : mx_F m K P X Y U (fun e => H' e = -1))
    (hT : ∀ i : Nat, (i : Int) < g → T' i = U i) (h1 : ∀ e : Nat, (e : Int) < m → H' e ≠ -1 → H e ≠ -1 ∧ X' e = mx_q U (X e) ∧ Y' e = mx_q U (Y e) ∧ H' e = mx_q U (H e)) (h2 : ∀ e : Nat, (e : Int) < m → H' e = -1 → X' e = -1 ∧ Y' e = -1) :
    mx_W tn m g TF D K P X' Y' H' T' C := by
  have cU := mx_C_U hW hC hJ
  obtain ⟨w1, w2, w3, w4, w5, w6, w7, w8, w9⟩ := hW
  have hU := hJ.1
  have hU0 : ∀ i : Nat, (i : Int) < g → 0 ≤ U i := fun i hi => (hU i hi).1
  have bx : ∀ v : Int, v = -1 ∨ (0 ≤ v ∧ v < g ∧ T v.toNat = v) → v = -1 ∨ (0 ≤ v ∧ v < g) := fun v hv => by rcases hv with q | q; exact Or.inl q; exact Or.inr ⟨q.1, q.2.1⟩
  have qv : ∀ v : Int, v = -1 ∨ (0 ≤ v ∧ v < g ∧ T v.toNat = v) → mx_q U v = -1 ∨ (0 ≤ mx_q U v ∧ mx_q U v < g ∧ T' (mx_q U v).toNat = mx_q U v) := fun v hv => by
    rcases hv with q | q
    · exact Or.inl (by rw [q]; rfl)
    · have u := hU v.toNat (by omega)
      rw [mx_q_nn q.1]
      exact Or.inr ⟨u.1, by omega, by rw [hT _ (by omega)]; exact u.2.2⟩
  refine ⟨w1, w2, ⟨fun e he hH => ?_, fun i hi => ?_⟩, fun e he => ?_, fun e f hef hf hHe hHf => ?_, fun i hi hT2 => ?_, fun e he hH => ?_, fun i hi => ?_, fun e he hH => ?_⟩
  · obtain ⟨a1, a2, a3, a4⟩ := h1 e he hH
    obtain ⟨b1, b2, b3⟩ := w3.1 e he a1
    rw [a2, a3, a4]
    refine ⟨?_, qv _ b2, qv _ b3⟩
    rcases qv _ (Or.inr b1) with z | z
    · have := (mx_q_m1 hU0 (Or.inr ⟨b1.1, b1.2.1⟩)).mp z; omega
    · exact z
  · have u := hU i hi
    rw [hT i hi, hT _ (by omega)]
    exact u
  · have k := w4 e he
    refine ⟨k.1, k.2.1, k.2.2.1, k.2.2.2.1, fun q => h2 e he q, fun q => ?_⟩
    obtain ⟨a1, a2, a3, a4⟩ := h1 e he q
    obtain ⟨b1, b2, b3⟩ := w3.1 e he a1
    have := k.2.2.2.2.2 a1
    rw [a2, a3, mx_q_m1 hU0 (bx _ b2), mx_q_m1 hU0 (bx _ b3)]
    exact this
  · obtain ⟨-, a2, a3, -⟩ := h1 e (by omega) hHe
    obtain ⟨-, b2, b3, -⟩ := h1 f hf hHf
    rw [a2, a3, b2, b3]
    exact hF e f hef hf hHe hHf
  · rw [hT i hi] at hT2
    have t := w3.2 i hi
    have u1 := hJ.2.1 i hi
    have u2 := hU (T i).toNat (by omega)
    have ti : T i = i := by omega
    obtain ⟨e, he, hH⟩ := w6 i hi ti
    obtain ⟨f, f1, f2, f3, f4, f5⟩ := mx_G_rep hG e he (by omega)
    refine ⟨f, by omega, ?_⟩
    rw [(h1 f (by omega) f2).2.2.2, f5, hH, mx_q_nn (by omega), Int.toNat_natCast]
    exact hT2
  · obtain ⟨a1, a2, a3, a4⟩ := h1 e he hH
    obtain ⟨b1, b2, b3⟩ := w3.1 e he a1
    obtain ⟨l1, l2⟩ := w7 e he a1
    have rep : ∀ f : Nat, f < e → H f ≠ -1 → ∃ f' : Nat, f' < e ∧ H' f' = mx_q U (H f) := fun f hf hHf => by
      obtain ⟨f', f1, f2, f3, f4, f5⟩ := mx_G_rep hG f (by omega) hHf
      exact ⟨f', by omega, by rw [(h1 f' (by omega) f2).2.2.2, f5]⟩
    refine ⟨fun z => ?_, fun z => ?_⟩
    · rw [a2] at z ⊢
      have zx : X e ≠ -1 := fun q => z ((mx_q_m1 hU0 (bx _ b2)).mpr q)
      obtain ⟨f, f1, f2⟩ := l1 zx
      obtain ⟨f', g1, g2⟩ := rep f f1 (by rw [f2]; exact zx)
      exact ⟨f', g1, by rw [g2, f2]⟩
    · rw [a3] at z ⊢
      have zx : Y e ≠ -1 := fun q => z ((mx_q_m1 hU0 (bx _ b3)).mpr q)
      obtain ⟨f, f1, f2⟩ := l2 zx
      obtain ⟨f', g1, g2⟩ := rep f f1 (by rw [f2]; exact zx)
      exact ⟨f', g1, by rw [g2, f2]⟩
  · rw [hT i hi, cU i hi]
    exact ⟨rfl, (w8 i hi).2⟩
  · obtain ⟨a1, a2, a3, a4⟩ := h1 e he hH
    obtain ⟨b1, b2, b3⟩ := w3.1 e he a1
    have e1 : mx_tc TF C (K e) (P e) (X' e) = mx_tc TF C (K e) (P e) (X e) := by
      rw [a2]
      unfold mx_tc
      rcases b2 with q | q
      · rw [q, mx_q_neg (by decide)]
      · have u := hU (X e).toNat (by omega)
        rw [mx_q_nn q.1, if_pos u.1, if_pos q.1, cU _ (by omega)]
    have e2 : mx_yc C (Y' e) = mx_yc C (Y e) := by
      rw [a3]
      unfold mx_yc
      rcases b3 with q | q
      · rw [q, mx_q_neg (by decide)]
      · have u := hU (Y e).toNat (by omega)
        rw [mx_q_nn q.1, if_pos u.1, if_pos q.1, cU _ (by omega)]
    rw [e1, e2, a4, mx_q_nn b1.1, cU _ (by omega)]
    exact w9 e he a1
theorem mx_Fg_mg (hW : mx_W tn m g TF D K P X Y H T C) (hC : C a.toNat = C b.toNat) (hJ : mx_J m g K P X Y H T a b U) (h1 : ∀ e : Nat, (e : Int) < m → H' e ≠ -1 → H e ≠ -1 ∧ X' e = mx_q U (X e) ∧ Y' e = mx_q U (Y e) ∧ H' e = mx_q U (H e)) {S W : Nat → Int} (h : mx_Fg m K P X Y H C S W) : mx_Fg m K P X' Y' H' C S W := by
  have cU := mx_C_U hW hC hJ
  have hU := hJ.1
  obtain ⟨f0, f1, f2⟩ := h
  refine ⟨f0, f1, fun e r f he hr1 hr2 hf => ?_⟩
  obtain ⟨x1, x2, x3⟩ := f2 e r f he hr1 hr2 hf
  refine ⟨x1, fun q => ?_, x3⟩
  rcases x2 q with z | ⟨z1, z2, z3⟩
  · exact Or.inl z
  · refine Or.inr ⟨z1, z2, fun q1 q2 => ?_⟩
    obtain ⟨a1, a2, a3, a4⟩ := h1 e z1 q1
    obtain ⟨b1, b2, b3, b4⟩ := h1 f z2 q2
    have s := hW.2.2.1.1 f z2 b1
    have e1 : mx_yc C (X' f) = mx_yc C (X f) := by
      rw [b2]
      unfold mx_yc
      rcases s.2.1 with q | q
      · rw [q, mx_q_neg (by decide)]
      · have u := hU (X f).toNat (by omega)
        rw [mx_q_nn q.1, if_pos u.1, if_pos q.1, cU _ (by omega)]
    have e2 : mx_yc C (Y' f) = mx_yc C (Y f) := by
      rw [b3]
      unfold mx_yc
      rcases s.2.2 with q | q
      · rw [q, mx_q_neg (by decide)]
      · have u := hU (Y f).toNat (by omega)
        rw [mx_q_nn q.1, if_pos u.1, if_pos q.1, cU _ (by omega)]
    have := z3 a1 b1
    unfold mx_fp at this ⊢
    rw [e1, e2]
    exact this
end
/-- what a change of the memo may do to what is reckoned -/
def mx_vs (k : Int) (μ μ' : am_M) : Prop := (μ 2 17 < μ' 2 17 ∧ μ' 2 17 ≤ μ 2 17 + k) ∨ (μ' 2 17 = μ 2 17 ∧ μ' 2 3 = μ 2 3 ∧ μ' 2 9 = μ 2 9 ∧ ∀ i, 5 ≤ i → i ≤ 11 → μ' i = μ i)
theorem mx_vs_tr {k k' : Int} {μ1 μ2 μ3 : am_M} (h1 : mx_vs k μ1 μ2) (h2 : mx_vs k' μ2 μ3) (hk : 0 ≤ k) (hk' : 0 ≤ k') : mx_vs (k + k') μ1 μ3 := by
  rcases h1 with h1 | h1 <;> rcases h2 with h2 | h2
  · exact Or.inl ⟨by omega, by omega⟩
  · exact Or.inl ⟨by omega, by omega⟩
  · exact Or.inl ⟨by omega, by omega⟩
  · exact Or.inr ⟨by omega, by omega, by omega, fun i a b => (h2.2.2.2 i a b).trans (h1.2.2.2 i a b)⟩
section
variable {t n : Nat} {σ : am_M}
theorem mx_Inv_memo2 (hI : mx_Inv t n σ) {σ' : am_M} (g : mx_Fq mx_CM mx_PM σ σ') (h1 : mx_I1 σ') (h2 : mx_I2 σ') (h3 : mx_I3 σ') (h4 : mx_I4 σ') (hm : σ 2 3 ≤ σ' 2 3) {k : Int} (hk : k ≤ 2000) (v : mx_vs k σ σ') : mx_Inv (t + 1) n σ' := by
  rcases v with v | v
  · have := (mx_I_A hI).1
    exact mx_Inv_memo hI g h1 h2 h3 h4 hm v.1 (by omega)
  · have c : ∀ i, i ∉ mx_CM → σ' i = σ i ∨ i = 0 ∨ i = 2 ∨ i = 82 := fun i hi => by
      by_cases q : i = 0 ∨ i = 2 ∨ i = 82
      · exact Or.inr q
      · refine Or.inl (funext fun j => g i j hi ?_)
        unfold mx_PM
        simp only [List.mem_cons, List.not_mem_nil, or_false, not_or, Prod.mk.injEq]
        omega
    have c' : ∀ i, i ∉ mx_CM → i ≠ 0 → i ≠ 2 → i ≠ 82 → σ' i = σ i := fun i hi a1 a2 a3 => by
      rcases c i hi with q | q | q | q
      · exact q
      · exact absurd q a1
      · exact absurd q a2
      · exact absurd q a3
    -- a memory that differs in no more than what the reckoning does not look at
    have g2 : mx_Fq [12, 13, 14, 28, 43, 44, 45, 46, 47, 48, 49, 50, 51, 52, 53, 89, 90, 91, 92, 93, 94, 95, 96, 97, 103, 104, 105, 106, 136, 137] [(2, 16), (82, 1), (82, 2), (82, 3), (82, 5), (82, 6), (82, 65), (82, 66), (82, 67), (82, 69), (82, 70), (0, 12)] σ σ' := by
      intro i j hi hj
      by_cases q : 5 ≤ i ∧ i ≤ 11
      · exact congrFun (v.2.2.2 i q.1 q.2) j
      · by_cases q2 : i = 2 ∧ (j = 3 ∨ j = 9 ∨ j = 17)
        · rcases q2 with ⟨rfl, rfl | rfl | rfl⟩
          · exact v.2.1
          · exact v.2.2.1
          · exact v.1
        · refine g i j ?_ ?_
          · unfold mx_CM
            simp only [List.mem_cons, List.not_mem_nil, or_false, not_or] at hi ⊢
            omega
          · unfold mx_PM
            simp only [List.mem_cons, List.not_mem_nil, or_false, not_or, Prod.mk.injEq] at hj ⊢
            omega
    exact mx_Inv_by hI g2 (h1 := Or.inr h1) (h2 := Or.inr h2) (h3 := Or.inr h3) (h4 := Or.inr h4)
/-- both merge -/
theorem unify_b {μ : am_M} (hg : mx_gd μ) (d : Nat) {a b : Int} (ha : 0 ≤ a ∧ a < μ 2 9 ∧ μ 10 a.toNat = a) (hb : 0 ≤ b ∧ b < μ 2 9 ∧ μ 10 b.toNat = b) (hC : μ 11 a.toNat = μ 11 b.toNat) (hv : 0 ≤ μ 2 17 ∧ μ 2 17 < 2147483000) :
    ∃ μ' : am_M, me_unify (d + 4) a b μ n = some (0, μ', n) ∧ mx_Fq [7, 8, 9, 10, 12] [(2, 17)] μ μ' ∧ mx_gd μ' ∧ (∀ S W, mx_Fs μ S W → mx_Fs μ' S W) ∧ mx_vs 1 μ μ' ∧ (∀ e : Nat, (e : Int) < μ 2 3 → μ' 9 e ≠ -1 → μ 9 e ≠ -1) ∧
      ∀ ρ : am_M, mx_rl μ ρ → ∀ x y : Int, (0 ≤ x ∧ x < μ 2 9) → (0 ≤ y ∧ y < μ 2 9) → ((μ 10 x.toNat = a ∧ μ 10 y.toNat = b) ∨ (μ 10 x.toNat = b ∧ μ 10 y.toNat = a)) → ∃ ρ' : am_M, mo_merges (d + 4) x y ρ n = some (0, ρ', n) ∧ mx_Fr [94, 95] ρ ρ' ∧ mx_rl μ' ρ' := by
  obtain ⟨hW, h64, hM⟩ := hg
  have w2 := hW.2.1
  have hS := hW.2.2.1
  have hgn : ∀ e : Nat, (e : Int) < μ 2 3 → μ 9 e = -1 → μ 7 e = -1 ∧ μ 8 e = -1 := fun e he q => (hW.2.2.2.1 e he).2.2.2.2.1 q
  obtain ⟨τ, U, v, p1, p2, p3, p4⟩ := me_unify_s (σ := μ) d n hS w2.1 (by omega) (by omega) h64 ha hb hM (fun e f hef hf h1 h2 => hW.2.2.2.2.1 e f hef hf h1 h2) hgn
  obtain ⟨u1, u2, u3, u4, u5, u6, u7, u8⟩ := p3
  have c : ∀ i, i ≠ 2 → (am_wr τ 2 17 v) i = τ i := fun i q => mx_wr_ne q
  have cj : ∀ j, j ≠ 17 → (am_wr τ 2 17 v) 2 j = μ 2 j := fun j q => by rw [mx_wr_off q, u1 2 (by decide)]
  have F1 : mx_Fq [7, 8, 9, 10, 12] [(2, 17)] μ (am_wr τ 2 17 v) := mx_fq_wr (mx_fq_up (mx_fq_of u1) rfl) rfl
  have hW' : mx_W (μ 2 0) (μ 2 3) (μ 2 9) (μ 3) (μ 4) (μ 5) (μ 6) (τ 7) (τ 8) (τ 9) (τ 10) (μ 11) := mx_W_merge hW hC u3 u5 p4 u2 u6 u7
  have t3 : τ 3 = μ 3 := u1 3 (by decide)
  have t4 : τ 4 = μ 4 := u1 4 (by decide)
  have t5 : τ 5 = μ 5 := u1 5 (by decide)
  have t6 : τ 6 = μ 6 := u1 6 (by decide)
  have t11 : τ 11 = μ 11 := u1 11 (by decide)
  refine ⟨am_wr τ 2 17 v, p1, F1, ⟨?_, ?_, ?_⟩, fun S W h => ?_, ?_, fun e he q => ?_, fun ρ hr x y hx hy hxy => ?_⟩
  · show mx_W ((am_wr τ 2 17 v) 2 0) ((am_wr τ 2 17 v) 2 3) ((am_wr τ 2 17 v) 2 9) ((am_wr τ 2 17 v) 3) ((am_wr τ 2 17 v) 4) ((am_wr τ 2 17 v) 5) ((am_wr τ 2 17 v) 6) ((am_wr τ 2 17 v) 7) ((am_wr τ 2 17 v) 8) ((am_wr τ 2 17 v) 9) ((am_wr τ 2 17 v) 10) ((am_wr τ 2 17 v) 11)
    rw [cj 0 (by decide), cj 3 (by decide), cj 9 (by decide), c 3 (by decide), c 4 (by decide), c 5 (by decide), c 6 (by decide), c 7 (by decide), c 8 (by decide), c 9 (by decide), c 10 (by decide), c 11 (by decide), t3, t4, t5, t6, t11]
    exact hW'
  · rw [cj 3 (by decide)]; exact h64
  · rw [cj 3 (by decide), cj 9 (by decide), c 9 (by decide), c 12 (by decide)]; exact u8
  · show mx_Fg ((am_wr τ 2 17 v) 2 3) ((am_wr τ 2 17 v) 5) ((am_wr τ 2 17 v) 6) ((am_wr τ 2 17 v) 7) ((am_wr τ 2 17 v) 8) ((am_wr τ 2 17 v) 9) ((am_wr τ 2 17 v) 11) S W
    rw [cj 3 (by decide), c 5 (by decide), c 6 (by decide), c 7 (by decide), c 8 (by decide), c 9 (by decide), c 11 (by decide), t5, t6, t11]
    exact mx_Fg_mg hW hC u3 u6 h
  · rcases p2 with ⟨q1, q2, q3⟩ | q
    · refine Or.inr ⟨by rw [mx_wr_at]; exact q1, cj 3 (by decide), cj 9 (by decide), fun i a1 a2 => by rw [c i (by omega), q3]⟩
    · refine Or.inl ?_
      rw [mx_wr_at, q, mx_w_id (by omega) (by omega)]
      omega
  · rw [c 9 (by decide)] at q
    exact (u6 e he q).1
  · -- the reference: the same end
    have fin : ∀ a' b' : Int, μ 10 x.toNat = a' → μ 10 y.toNat = b' → (∀ Q, mx_clo (μ 2 3) (μ 2 9) (μ 5) (μ 6) (μ 7) (μ 8) (μ 9) (μ 10) a b Q ↔ mx_clo (μ 2 3) (μ 2 9) (μ 5) (μ 6) (μ 7) (μ 8) (μ 9) (μ 10) a' b' Q) → (U a'.toNat = U b'.toNat) → ∃ ρ' : am_M, mo_merges (d + 4) x y ρ n = some (0, ρ', n) ∧ mx_Fr [94, 95] ρ ρ' ∧ mx_rl (am_wr τ 2 17 v) ρ' := by
      intro a' b' ea eb hcl hUab
      obtain ⟨ρ', U', r1, r2, r3⟩ := mo_merges_s hr.1 hS (d + 1) n x y hx hy ea eb
      have hJ' : mx_J (μ 2 3) (μ 2 9) (μ 5) (μ 6) (μ 7) (μ 8) (μ 9) (μ 10) a' b' U := ⟨u3.1, u3.2.1, fun Q hQ => u3.2.2 Q ((hcl Q).mpr hQ)⟩
      obtain ⟨un1, un2⟩ := mx_uniq hS hJ' hUab u5 p4 r2.2.2.1 r2.2.2.2.1 r2.2.2.2.2.1 r3
      have hR := mx_mg_R hr.1 hS r2
      refine ⟨ρ', r1, r2.1, ?_, ?_⟩
      · show mx_R ((am_wr τ 2 17 v) 2 3) ((am_wr τ 2 17 v) 2 9) ((am_wr τ 2 17 v) 5) ((am_wr τ 2 17 v) 6) ((am_wr τ 2 17 v) 7) ((am_wr τ 2 17 v) 8) ((am_wr τ 2 17 v) 9) ((am_wr τ 2 17 v) 10) ρ'
        rw [cj 3 (by decide), cj 9 (by decide), c 5 (by decide), c 6 (by decide), c 7 (by decide), c 8 (by decide), c 9 (by decide), c 10 (by decide), t5, t6]
        have qq : ∀ z : Int, z = -1 ∨ (0 ≤ z ∧ z < μ 2 9 ∧ μ 10 z.toNat = z) → mx_q U z = mx_q U' z := fun z hz => by
          rcases hz with q | q
          · rw [q]; rfl
          · rw [mx_q_nn q.1, mx_q_nn q.1, un1 _ (by omega)]
        refine mx_R_cong hR (fun e he => ?_) (fun i hi => ?_)
        · have ug := un2 e he
          by_cases z : ρ' 95 e = 0
          · have z2 : τ 9 e ≠ -1 := fun q => (ug.mp q) z
            obtain ⟨y1, y2, y3, y4⟩ := u6 e he z2
            have s := hS.1 e he y1
            refine ⟨rfl, rfl, ?_, fun _ => ⟨?_, ?_⟩⟩
            · rw [if_pos z, y4]; exact qq _ (Or.inr s.1)
            · rw [y2]; exact qq _ s.2.1
            · rw [y3]; exact qq _ s.2.2
          · have z2 : τ 9 e = -1 := ug.mpr z
            refine ⟨rfl, rfl, by rw [if_neg z]; exact z2, fun q => absurd (if_neg z) q⟩
        · rw [u2 i hi]; exact un1 i hi
      · have := hr.2
        unfold mx_RT at this ⊢
        rw [cj 0 (by decide), c 3 (by decide), c 4 (by decide), t3, t4, r2.1 82 (by decide), r2.1 84 (by decide), r2.1 85 (by decide), r2.1 86 (by decide), r2.1 87 (by decide), r2.1 88 (by decide)]
        exact this
    rcases hxy with ⟨e1, e2⟩ | ⟨e1, e2⟩
    · exact fin a b e1 e2 (fun Q => Iff.rfl) u4
    · exact fin b a e1 e2 (fun Q => ⟨fun h => ⟨h.1, h.2.1.symm, h.2.2⟩, fun h => ⟨h.1, h.2.1.symm, h.2.2⟩⟩) u4.symm
theorem same_c (hI : mx_Inv t n σ) (ht : t < 1000) (d : Nat) (v1 v2 : Int) : mx_C t n σ (fun σ n => pm_same (d + 6) v1 v2 σ n) (fun σ n => mo_same (d + 6) v1 v2 σ n) := by
  have hb := mx_I_b hI
  have hg := mx_I_gd hI
  have hv := (mx_I_A hI).1
  have e82 : ∀ k, (mx_rf σ k) 82 2 = σ 2 9 := fun k => by rw [mx_rf_ne (by decide)]; exact hb.2.2.2
  by_cases h1 : 0 ≤ v1 ∧ v1 < σ 2 9
  · by_cases h2 : 0 ≤ v2 ∧ v2 < σ 2 9
    · have a1 := hg.1.2.2.1.2 v1.toNat (by omega)
      have a2 := hg.1.2.2.1.2 v2.toNat (by omega)
      have c1 := (hg.1.2.2.2.2.2.2.2.1 v1.toNat (by omega)).1
      have c2 := (hg.1.2.2.2.2.2.2.2.1 v2.toNat (by omega)).1
      have ra : 0 ≤ σ 10 v1.toNat ∧ σ 10 v1.toNat < σ 2 9 ∧ σ 10 (σ 10 v1.toNat).toNat = σ 10 v1.toNat := ⟨a1.1, by omega, a1.2.2⟩
      have rb : 0 ≤ σ 10 v2.toNat ∧ σ 10 v2.toNat < σ 2 9 ∧ σ 10 (σ 10 v2.toNat).toNat = σ 10 v2.toNat := ⟨a2.1, by omega, a2.2.2⟩
      -- the reference up to its columns
      have ref : ∀ τ, mx_rl σ τ → ∃ τ' : am_M, mx_Fr [103, 104, 105, 106] τ τ' ∧ mx_rl σ τ' ∧ mo_tells (d + 5) τ n = some (0, τ', n) ∧ τ' 105 (σ 10 v1.toNat).toNat = σ 11 v1.toNat ∧ τ' 105 (σ 10 v2.toNat).toNat = σ 11 v2.toNat := by
        intro τ hrl
        obtain ⟨τ', p1, p2, p3⟩ := mo_tells_s hg.1 hrl.1 hrl.2 (d + 3) n
        refine ⟨τ', mx_fr_up p2 (by decide), mx_rl_fr hrl (fun i j a b => congrFun (p2 i (by simp only [List.mem_cons, List.not_mem_nil, or_false, not_or]; omega)) j) (fun j _ => congrFun (p2 82 (by decide)) j), p1, ?_, ?_⟩
        · rw [(p3 _ (by omega) (by rw [ra.2.2]; omega)).2.1, c1]
        · rw [(p3 _ (by omega) (by rw [rb.2.2]; omega)).2.1, c2]
      by_cases h3 : σ 11 v1.toNat = σ 11 v2.toNat
      · obtain ⟨μ', p1, p2, p3, p4, p5, p6, p7⟩ := unify_b (n := n) hg (d + 1) ra rb (by rw [c1, c2]; exact h3) (by omega)
        have rl1 : mx_rl σ μ' := mx_rl_fr (mx_I_rl hI) (fun i j a b => p2 i j (by simp only [List.mem_cons, List.not_mem_nil, or_false, not_or]; omega) (by simp only [List.mem_cons, List.not_mem_nil, or_false, not_or, Prod.mk.injEq]; omega)) (fun j _ => p2 82 j (by decide) (by simp))
        obtain ⟨τ', q1, q2, q3, q4, q5⟩ := ref μ' rl1
        obtain ⟨ρ', r1, r2, r3⟩ := p7 τ' q2 v1 v2 h1 h2 (Or.inl ⟨rfl, rfl⟩)
        have e9 : μ' 2 9 = σ 2 9 := p2 2 9 (by decide) (by decide)
        have z1 := mo_root_r r3.1 (d + 4) n v1 h1.1 (by omega)
        have y1 := mo_root_r q2.1 (d + 4) n v1 h1.1 h1.2
        have y2 := mo_root_r q2.1 (d + 4) n v2 h2.1 h2.2
        have g : mx_Fq [7, 8, 9, 10, 12, 94, 95, 103, 104, 105, 106] [(2, 17)] σ ρ' := mx_fq_tr (mx_fq_up p2 rfl) (mx_fq_tr (mx_fq_up (mx_fq_of q1) rfl) (mx_fq_up (mx_fq_of r2) rfl))
        have hc : ∀ i j, 2 ≤ i → i ≤ 14 → ρ' i j = μ' i j := fun i j a b => by
          rw [congrFun (r2 i (by simp only [List.mem_cons, List.not_mem_nil, or_false, not_or]; omega)) j, congrFun (q1 i (by simp only [List.mem_cons, List.not_mem_nil, or_false, not_or]; omega)) j]
        refine mx_C_of (μ' 10 v1.toNat) μ' ρ' ?_ ?_ ?_
        · rw [pm_same_e]; (try simp only [Int.toNat_natCast, mx_fin1]); simp (disch := first | assumption | omega | decide) only [↓if_pos, ↓if_neg, ↓mx_bi_p, ↓mx_bi_n, ↓mx_m, ↓mx_if_t, ↓mx_if_f1, ↓mx_bd (pm_isShelf_s ..), ↓mx_bd (mo_isShelf_s ..), ↓mx_bd (pm_isColumn_s ..), ↓mx_bd (mo_isFrom_s ..), ↓mx_bd (mo_isGroup_s ..), ↓mx_bd (mo_isExpression_s ..), ↓mx_bd (me_isTable_s ..), ↓mx_bd (me_isExpression_s ..), ↓mx_bd (me_isGroup_s ..), ↓mx_bd (pm_isPriced_s ..), ↓mx_bd (pm_isOrder_s ..), ↓mx_bd (pm_isPlace_s ..), ↓mx_bd (mo_isDemand_s ..), ↓mx_bd (pm_isAllowable_s ..), ↓mx_bd (mo_isWay_s ..), ↓mx_bd (pm_refuse_s ..), ↓mx_bd (pm_refuseFar_s ..), ↓mx_bd (mo_no_s ..), ↓mx_bd (mo_noTen_s ..), ↓ix_1, ↓ix_3, ↓ix_4, ↓ix_5, ↓ix_6, ↓ix_7, ↓ix_8, ↓ix_9, ↓ix_10, ↓ix_11, ↓ix_12, ↓ix_13, ↓ix_14, ↓ix_16, ↓ix_17, ↓ix_18, ↓ix_19, ↓ix_20, ↓ix_21, ↓ix_22, ↓ix_23, ↓ix_24, ↓ix_25, ↓ix_26, ↓ix_27, ↓ix_30, ↓ix_31, ↓ix_32, ↓ix_34, ↓ix_35, ↓ix_36, ↓ix_39, ↓ix_40, ↓ix_41, ↓ix_42, ↓ix_44, ↓ix_45, ↓ix_46, ↓ix_47, ↓ix_48, ↓ix_49, ↓ix_50, ↓ix_51, ↓ix_52, ↓ix_53, ↓ix_55, ↓ix_56, ↓ix_57, ↓ix_59, ↓ix_60, ↓ix_61, ↓ix_63, ↓ix_64, ↓ix_65, ↓ix_67, ↓ix_69, ↓ix_71, ↓ix_73, ↓ix_75, ↓ix_77, ↓ix_79, ↓ix_81, ↓ix_83, ↓ix_84, ↓ix_85, ↓ix_86, ↓ix_87, ↓ix_88, ↓ix_89, ↓ix_90, ↓ix_91, ↓ix_92, ↓ix_93, ↓ix_94, ↓ix_95, ↓ix_96, ↓ix_97, ↓ix_98, ↓ix_99, ↓ix_100, ↓ix_101, ↓ix_102, ↓ix_103, ↓ix_104, ↓ix_105, ↓ix_106, ↓ix_107, ↓ix_108, ↓ix_109, ↓ix_110, ↓ix_111, ↓ix_112, ↓ix_113, ↓ix_114, ↓ix_115, ↓ix_116, ↓ix_117, ↓ix_118, ↓ix_119, ↓ix_120, ↓ix_121, ↓ix_122, ↓ix_123, ↓ix_124, ↓ix_125, ↓ix_126, ↓ix_127, ↓ix_128, ↓ix_129, ↓ix_130, ↓ix_131, ↓ix_132, ↓ix_133, ↓ix_134, ↓ix_135, ↓ix_136, ↓ix_137, ↓ix_138, ↓ix_139, ↓ix_140, ↓ix_141, ↓ix_142, ↓ix_143, Option.bind_some, mx_wr_ne, mx_wr_at, mx_wr_off, mx_rf_ne, mx_no_ne, mx_if_t, Int.toNat_natCast, ix_1, ix_3, ix_4, ix_5, ix_6, ix_7, ix_8, ix_9, ix_10, ix_11, ix_12, ix_13, ix_14, ix_16, ix_17, ix_18, ix_19, ix_20, ix_21, ix_22, ix_23, ix_24, ix_25, ix_26, ix_27, ix_30, ix_31, ix_32, ix_34, ix_35, ix_36, ix_39, ix_40, ix_41, ix_42, ix_44, ix_45, ix_46, ix_47, ix_48, ix_49, ix_50, ix_51, ix_52, ix_53, ix_55, ix_56, ix_57, ix_59, ix_60, ix_61, ix_63, ix_64, ix_65, ix_67, ix_69, ix_71, ix_73, ix_75, ix_77, ix_79, ix_81, ix_83, ix_84, ix_85, ix_86, ix_87, ix_88, ix_89, ix_90, ix_91, ix_92, ix_93, ix_94, ix_95, ix_96, ix_97, ix_98, ix_99, ix_100, ix_101, ix_102, ix_103, ix_104, ix_105, ix_106, ix_107, ix_108, ix_109, ix_110, ix_111, ix_112, ix_113, ix_114, ix_115, ix_116, ix_117, ix_118, ix_119, ix_120, ix_121, ix_122, ix_123, ix_124, ix_125, ix_126, ix_127, ix_128, ix_129, ix_130, ix_131, ix_132, ix_133, ix_134, ix_135, ix_136, ix_137, ix_138, ix_139, ix_140, ix_141, ix_142, ix_143, ↓mx_bd (me_columnsOf_s ..), ↓mx_bd (me_root_s ..), h3, ↓mx_bd p1]
        · rw [mo_same_e]; (try simp only [Int.toNat_natCast, mx_fin1]); simp (disch := first | assumption | omega | decide) only [↓if_pos, ↓if_neg, ↓mx_bi_p, ↓mx_bi_n, ↓mx_m, ↓mx_if_t, ↓mx_if_f1, ↓mx_bd (pm_isShelf_s ..), ↓mx_bd (mo_isShelf_s ..), ↓mx_bd (pm_isColumn_s ..), ↓mx_bd (mo_isFrom_s ..), ↓mx_bd (mo_isGroup_s ..), ↓mx_bd (mo_isExpression_s ..), ↓mx_bd (me_isTable_s ..), ↓mx_bd (me_isExpression_s ..), ↓mx_bd (me_isGroup_s ..), ↓mx_bd (pm_isPriced_s ..), ↓mx_bd (pm_isOrder_s ..), ↓mx_bd (pm_isPlace_s ..), ↓mx_bd (mo_isDemand_s ..), ↓mx_bd (pm_isAllowable_s ..), ↓mx_bd (mo_isWay_s ..), ↓mx_bd (pm_refuse_s ..), ↓mx_bd (pm_refuseFar_s ..), ↓mx_bd (mo_no_s ..), ↓mx_bd (mo_noTen_s ..), ↓ix_1, ↓ix_3, ↓ix_4, ↓ix_5, ↓ix_6, ↓ix_7, ↓ix_8, ↓ix_9, ↓ix_10, ↓ix_11, ↓ix_12, ↓ix_13, ↓ix_14, ↓ix_16, ↓ix_17, ↓ix_18, ↓ix_19, ↓ix_20, ↓ix_21, ↓ix_22, ↓ix_23, ↓ix_24, ↓ix_25, ↓ix_26, ↓ix_27, ↓ix_30, ↓ix_31, ↓ix_32, ↓ix_34, ↓ix_35, ↓ix_36, ↓ix_39, ↓ix_40, ↓ix_41, ↓ix_42, ↓ix_44, ↓ix_45, ↓ix_46, ↓ix_47, ↓ix_48, ↓ix_49, ↓ix_50, ↓ix_51, ↓ix_52, ↓ix_53, ↓ix_55, ↓ix_56, ↓ix_57, ↓ix_59, ↓ix_60, ↓ix_61, ↓ix_63, ↓ix_64, ↓ix_65, ↓ix_67, ↓ix_69, ↓ix_71, ↓ix_73, ↓ix_75, ↓ix_77, ↓ix_79, ↓ix_81, ↓ix_83, ↓ix_84, ↓ix_85, ↓ix_86, ↓ix_87, ↓ix_88, ↓ix_89, ↓ix_90, ↓ix_91, ↓ix_92, ↓ix_93, ↓ix_94, ↓ix_95, ↓ix_96, ↓ix_97, ↓ix_98, ↓ix_99, ↓ix_100, ↓ix_101, ↓ix_102, ↓ix_103, ↓ix_104, ↓ix_105, ↓ix_106, ↓ix_107, ↓ix_108, ↓ix_109, ↓ix_110, ↓ix_111, ↓ix_112, ↓ix_113, ↓ix_114, ↓ix_115, ↓ix_116, ↓ix_117, ↓ix_118, ↓ix_119, ↓ix_120, ↓ix_121, ↓ix_122, ↓ix_123, ↓ix_124, ↓ix_125, ↓ix_126, ↓ix_127, ↓ix_128, ↓ix_129, ↓ix_130, ↓ix_131, ↓ix_132, ↓ix_133, ↓ix_134, ↓ix_135, ↓ix_136, ↓ix_137, ↓ix_138, ↓ix_139, ↓ix_140, ↓ix_141, ↓ix_142, ↓ix_143, Option.bind_some, mx_wr_ne, mx_wr_at, mx_wr_off, mx_rf_ne, mx_no_ne, mx_if_t, Int.toNat_natCast, ix_1, ix_3, ix_4, ix_5, ix_6, ix_7, ix_8, ix_9, ix_10, ix_11, ix_12, ix_13, ix_14, ix_16, ix_17, ix_18, ix_19, ix_20, ix_21, ix_22, ix_23, ix_24, ix_25, ix_26, ix_27, ix_30, ix_31, ix_32, ix_34, ix_35, ix_36, ix_39, ix_40, ix_41, ix_42, ix_44, ix_45, ix_46, ix_47, ix_48, ix_49, ix_50, ix_51, ix_52, ix_53, ix_55, ix_56, ix_57, ix_59, ix_60, ix_61, ix_63, ix_64, ix_65, ix_67, ix_69, ix_71, ix_73, ix_75, ix_77, ix_79, ix_81, ix_83, ix_84, ix_85, ix_86, ix_87, ix_88, ix_89, ix_90, ix_91, ix_92, ix_93, ix_94, ix_95, ix_96, ix_97, ix_98, ix_99, ix_100, ix_101, ix_102, ix_103, ix_104, ix_105, ix_106, ix_107, ix_108, ix_109, ix_110, ix_111, ix_112, ix_113, ix_114, ix_115, ix_116, ix_117, ix_118, ix_119, ix_120, ix_121, ix_122, ix_123, ix_124, ix_125, ix_126, ix_127, ix_128, ix_129, ix_130, ix_131, ix_132, ix_133, ix_134, ix_135, ix_136, ix_137, ix_138, ix_139, ix_140, ix_141, ix_142, ix_143, e9, rl1.1.2.2.2.1, ↓mx_bd q3, ↓mx_bd y1, ↓mx_bd y2, q4, q5, h3, ↓mx_bd r1, ↓mx_bd z1]
        · have i2 := mx_I_2 hI
          have k13 : μ' 13 = σ 13 := funext fun j => p2 13 j (by decide) (by simp)
          have k14 : μ' 14 = σ 14 := funext fun j => p2 14 j (by decide) (by simp)
          have k96 : ρ' 96 = σ 96 := funext fun j => g 96 j (by decide) (by simp)
          have k97 : ρ' 97 = σ 97 := funext fun j => g 97 j (by decide) (by simp)
          refine mx_Inv_memo2 hI (mx_fq_up g rfl) (mx_I1_of p3 r3 hc) (mx_I2_of (μ := μ') ?_ ?_ ?_ hc) (mx_I3_fr g rfl (mx_I_3 hI)) (mx_I4_fr g rfl (mx_I_4 hI)) ?_ (k := 1) (by decide) ?_
          · rw [k13, k96]; exact p4 _ _ i2.1
          · rw [k14, k97]; exact i2.2.1
          · rw [k14, g 82 3 (by decide) (by decide)]; exact i2.2.2
          · rw [g 2 3 (by decide) (by decide)]; omega
          · unfold mx_vs at p5 ⊢
            rw [hc 2 17 (by decide) (by decide), hc 2 3 (by decide) (by decide), hc 2 9 (by decide) (by decide)]
            rcases p5 with q | q
            · exact Or.inl q
            · exact Or.inr ⟨q.1, q.2.1, q.2.2.1, fun i a b => (funext fun j => hc i j (by omega) (by omega)).trans (q.2.2.2 i a b)⟩
      · refine mx_C_ref2 hI 6 (-6) ?_ ?_
        · rw [pm_same_e]; (try simp only [Int.toNat_natCast, mx_fin1]); simp (disch := first | assumption | omega | decide) only [↓if_pos, ↓if_neg, ↓mx_bi_p, ↓mx_bi_n, ↓mx_m, ↓mx_if_t, ↓mx_if_f1, ↓mx_bd (pm_isShelf_s ..), ↓mx_bd (mo_isShelf_s ..), ↓mx_bd (pm_isColumn_s ..), ↓mx_bd (mo_isFrom_s ..), ↓mx_bd (mo_isGroup_s ..), ↓mx_bd (mo_isExpression_s ..), ↓mx_bd (me_isTable_s ..), ↓mx_bd (me_isExpression_s ..), ↓mx_bd (me_isGroup_s ..), ↓mx_bd (pm_isPriced_s ..), ↓mx_bd (pm_isOrder_s ..), ↓mx_bd (pm_isPlace_s ..), ↓mx_bd (mo_isDemand_s ..), ↓mx_bd (pm_isAllowable_s ..), ↓mx_bd (mo_isWay_s ..), ↓mx_bd (pm_refuse_s ..), ↓mx_bd (pm_refuseFar_s ..), ↓mx_bd (mo_no_s ..), ↓mx_bd (mo_noTen_s ..), ↓ix_1, ↓ix_3, ↓ix_4, ↓ix_5, ↓ix_6, ↓ix_7, ↓ix_8, ↓ix_9, ↓ix_10, ↓ix_11, ↓ix_12, ↓ix_13, ↓ix_14, ↓ix_16, ↓ix_17, ↓ix_18, ↓ix_19, ↓ix_20, ↓ix_21, ↓ix_22, ↓ix_23, ↓ix_24, ↓ix_25, ↓ix_26, ↓ix_27, ↓ix_30, ↓ix_31, ↓ix_32, ↓ix_34, ↓ix_35, ↓ix_36, ↓ix_39, ↓ix_40, ↓ix_41, ↓ix_42, ↓ix_44, ↓ix_45, ↓ix_46, ↓ix_47, ↓ix_48, ↓ix_49, ↓ix_50, ↓ix_51, ↓ix_52, ↓ix_53, ↓ix_55, ↓ix_56, ↓ix_57, ↓ix_59, ↓ix_60, ↓ix_61, ↓ix_63, ↓ix_64, ↓ix_65, ↓ix_67, ↓ix_69, ↓ix_71, ↓ix_73, ↓ix_75, ↓ix_77, ↓ix_79, ↓ix_81, ↓ix_83, ↓ix_84, ↓ix_85, ↓ix_86, ↓ix_87, ↓ix_88, ↓ix_89, ↓ix_90, ↓ix_91, ↓ix_92, ↓ix_93, ↓ix_94, ↓ix_95, ↓ix_96, ↓ix_97, ↓ix_98, ↓ix_99, ↓ix_100, ↓ix_101, ↓ix_102, ↓ix_103, ↓ix_104, ↓ix_105, ↓ix_106, ↓ix_107, ↓ix_108, ↓ix_109, ↓ix_110, ↓ix_111, ↓ix_112, ↓ix_113, ↓ix_114, ↓ix_115, ↓ix_116, ↓ix_117, ↓ix_118, ↓ix_119, ↓ix_120, ↓ix_121, ↓ix_122, ↓ix_123, ↓ix_124, ↓ix_125, ↓ix_126, ↓ix_127, ↓ix_128, ↓ix_129, ↓ix_130, ↓ix_131, ↓ix_132, ↓ix_133, ↓ix_134, ↓ix_135, ↓ix_136, ↓ix_137, ↓ix_138, ↓ix_139, ↓ix_140, ↓ix_141, ↓ix_142, ↓ix_143, Option.bind_some, mx_wr_ne, mx_wr_at, mx_wr_off, mx_rf_ne, mx_no_ne, mx_if_t, Int.toNat_natCast, ix_1, ix_3, ix_4, ix_5, ix_6, ix_7, ix_8, ix_9, ix_10, ix_11, ix_12, ix_13, ix_14, ix_16, ix_17, ix_18, ix_19, ix_20, ix_21, ix_22, ix_23, ix_24, ix_25, ix_26, ix_27, ix_30, ix_31, ix_32, ix_34, ix_35, ix_36, ix_39, ix_40, ix_41, ix_42, ix_44, ix_45, ix_46, ix_47, ix_48, ix_49, ix_50, ix_51, ix_52, ix_53, ix_55, ix_56, ix_57, ix_59, ix_60, ix_61, ix_63, ix_64, ix_65, ix_67, ix_69, ix_71, ix_73, ix_75, ix_77, ix_79, ix_81, ix_83, ix_84, ix_85, ix_86, ix_87, ix_88, ix_89, ix_90, ix_91, ix_92, ix_93, ix_94, ix_95, ix_96, ix_97, ix_98, ix_99, ix_100, ix_101, ix_102, ix_103, ix_104, ix_105, ix_106, ix_107, ix_108, ix_109, ix_110, ix_111, ix_112, ix_113, ix_114, ix_115, ix_116, ix_117, ix_118, ix_119, ix_120, ix_121, ix_122, ix_123, ix_124, ix_125, ix_126, ix_127, ix_128, ix_129, ix_130, ix_131, ix_132, ix_133, ix_134, ix_135, ix_136, ix_137, ix_138, ix_139, ix_140, ix_141, ix_142, ix_143, ↓mx_bd (me_columnsOf_s ..), h3]; rfl
        · obtain ⟨τ', q1, q2, q3, q4, q5⟩ := ref _ (mx_rl_rf hI 6)
          have y1 := mo_root_r q2.1 (d + 4) n v1 h1.1 h1.2
          have y2 := mo_root_r q2.1 (d + 4) n v2 h2.1 h2.2
          refine ⟨τ', q1, ?_⟩
          rw [mo_same_e]; (try simp only [Int.toNat_natCast, mx_fin1]); simp (disch := first | assumption | omega | decide) only [↓if_pos, ↓if_neg, ↓mx_bi_p, ↓mx_bi_n, ↓mx_m, ↓mx_if_t, ↓mx_if_f1, ↓mx_bd (pm_isShelf_s ..), ↓mx_bd (mo_isShelf_s ..), ↓mx_bd (pm_isColumn_s ..), ↓mx_bd (mo_isFrom_s ..), ↓mx_bd (mo_isGroup_s ..), ↓mx_bd (mo_isExpression_s ..), ↓mx_bd (me_isTable_s ..), ↓mx_bd (me_isExpression_s ..), ↓mx_bd (me_isGroup_s ..), ↓mx_bd (pm_isPriced_s ..), ↓mx_bd (pm_isOrder_s ..), ↓mx_bd (pm_isPlace_s ..), ↓mx_bd (mo_isDemand_s ..), ↓mx_bd (pm_isAllowable_s ..), ↓mx_bd (mo_isWay_s ..), ↓mx_bd (pm_refuse_s ..), ↓mx_bd (pm_refuseFar_s ..), ↓mx_bd (mo_no_s ..), ↓mx_bd (mo_noTen_s ..), ↓ix_1, ↓ix_3, ↓ix_4, ↓ix_5, ↓ix_6, ↓ix_7, ↓ix_8, ↓ix_9, ↓ix_10, ↓ix_11, ↓ix_12, ↓ix_13, ↓ix_14, ↓ix_16, ↓ix_17, ↓ix_18, ↓ix_19, ↓ix_20, ↓ix_21, ↓ix_22, ↓ix_23, ↓ix_24, ↓ix_25, ↓ix_26, ↓ix_27, ↓ix_30, ↓ix_31, ↓ix_32, ↓ix_34, ↓ix_35, ↓ix_36, ↓ix_39, ↓ix_40, ↓ix_41, ↓ix_42, ↓ix_44, ↓ix_45, ↓ix_46, ↓ix_47, ↓ix_48, ↓ix_49, ↓ix_50, ↓ix_51, ↓ix_52, ↓ix_53, ↓ix_55, ↓ix_56, ↓ix_57, ↓ix_59, ↓ix_60, ↓ix_61, ↓ix_63, ↓ix_64, ↓ix_65, ↓ix_67, ↓ix_69, ↓ix_71, ↓ix_73, ↓ix_75, ↓ix_77, ↓ix_79, ↓ix_81, ↓ix_83, ↓ix_84, ↓ix_85, ↓ix_86, ↓ix_87, ↓ix_88, ↓ix_89, ↓ix_90, ↓ix_91, ↓ix_92, ↓ix_93, ↓ix_94, ↓ix_95, ↓ix_96, ↓ix_97, ↓ix_98, ↓ix_99, ↓ix_100, ↓ix_101, ↓ix_102, ↓ix_103, ↓ix_104, ↓ix_105, ↓ix_106, ↓ix_107, ↓ix_108, ↓ix_109, ↓ix_110, ↓ix_111, ↓ix_112, ↓ix_113, ↓ix_114, ↓ix_115, ↓ix_116, ↓ix_117, ↓ix_118, ↓ix_119, ↓ix_120, ↓ix_121, ↓ix_122, ↓ix_123, ↓ix_124, ↓ix_125, ↓ix_126, ↓ix_127, ↓ix_128, ↓ix_129, ↓ix_130, ↓ix_131, ↓ix_132, ↓ix_133, ↓ix_134, ↓ix_135, ↓ix_136, ↓ix_137, ↓ix_138, ↓ix_139, ↓ix_140, ↓ix_141, ↓ix_142, ↓ix_143, Option.bind_some, mx_wr_ne, mx_wr_at, mx_wr_off, mx_rf_ne, mx_no_ne, mx_if_t, Int.toNat_natCast, ix_1, ix_3, ix_4, ix_5, ix_6, ix_7, ix_8, ix_9, ix_10, ix_11, ix_12, ix_13, ix_14, ix_16, ix_17, ix_18, ix_19, ix_20, ix_21, ix_22, ix_23, ix_24, ix_25, ix_26, ix_27, ix_30, ix_31, ix_32, ix_34, ix_35, ix_36, ix_39, ix_40, ix_41, ix_42, ix_44, ix_45, ix_46, ix_47, ix_48, ix_49, ix_50, ix_51, ix_52, ix_53, ix_55, ix_56, ix_57, ix_59, ix_60, ix_61, ix_63, ix_64, ix_65, ix_67, ix_69, ix_71, ix_73, ix_75, ix_77, ix_79, ix_81, ix_83, ix_84, ix_85, ix_86, ix_87, ix_88, ix_89, ix_90, ix_91, ix_92, ix_93, ix_94, ix_95, ix_96, ix_97, ix_98, ix_99, ix_100, ix_101, ix_102, ix_103, ix_104, ix_105, ix_106, ix_107, ix_108, ix_109, ix_110, ix_111, ix_112, ix_113, ix_114, ix_115, ix_116, ix_117, ix_118, ix_119, ix_120, ix_121, ix_122, ix_123, ix_124, ix_125, ix_126, ix_127, ix_128, ix_129, ix_130, ix_131, ix_132, ix_133, ix_134, ix_135, ix_136, ix_137, ix_138, ix_139, ix_140, ix_141, ix_142, ix_143, e82, ↓mx_bd q3, ↓mx_bd y1, ↓mx_bd y2, q4, q5, h3]; rfl
    · exact mx_C_ref hI 1 (-1) (by rw [pm_same_e]; (try simp only [Int.toNat_natCast, mx_fin1]); simp (disch := first | assumption | omega | decide) only [↓if_pos, ↓if_neg, ↓mx_bi_p, ↓mx_bi_n, ↓mx_m, ↓mx_if_t, ↓mx_if_f1, ↓mx_bd (pm_isShelf_s ..), ↓mx_bd (mo_isShelf_s ..), ↓mx_bd (pm_isColumn_s ..), ↓mx_bd (mo_isFrom_s ..), ↓mx_bd (mo_isGroup_s ..), ↓mx_bd (mo_isExpression_s ..), ↓mx_bd (me_isTable_s ..), ↓mx_bd (me_isExpression_s ..), ↓mx_bd (me_isGroup_s ..), ↓mx_bd (pm_isPriced_s ..), ↓mx_bd (pm_isOrder_s ..), ↓mx_bd (pm_isPlace_s ..), ↓mx_bd (mo_isDemand_s ..), ↓mx_bd (pm_isAllowable_s ..), ↓mx_bd (mo_isWay_s ..), ↓mx_bd (pm_refuse_s ..), ↓mx_bd (pm_refuseFar_s ..), ↓mx_bd (mo_no_s ..), ↓mx_bd (mo_noTen_s ..), ↓ix_1, ↓ix_3, ↓ix_4, ↓ix_5, ↓ix_6, ↓ix_7, ↓ix_8, ↓ix_9, ↓ix_10, ↓ix_11, ↓ix_12, ↓ix_13, ↓ix_14, ↓ix_16, ↓ix_17, ↓ix_18, ↓ix_19, ↓ix_20, ↓ix_21, ↓ix_22, ↓ix_23, ↓ix_24, ↓ix_25, ↓ix_26, ↓ix_27, ↓ix_30, ↓ix_31, ↓ix_32, ↓ix_34, ↓ix_35, ↓ix_36, ↓ix_39, ↓ix_40, ↓ix_41, ↓ix_42, ↓ix_44, ↓ix_45, ↓ix_46, ↓ix_47, ↓ix_48, ↓ix_49, ↓ix_50, ↓ix_51, ↓ix_52, ↓ix_53, ↓ix_55, ↓ix_56, ↓ix_57, ↓ix_59, ↓ix_60, ↓ix_61, ↓ix_63, ↓ix_64, ↓ix_65, ↓ix_67, ↓ix_69, ↓ix_71, ↓ix_73, ↓ix_75, ↓ix_77, ↓ix_79, ↓ix_81, ↓ix_83, ↓ix_84, ↓ix_85, ↓ix_86, ↓ix_87, ↓ix_88, ↓ix_89, ↓ix_90, ↓ix_91, ↓ix_92, ↓ix_93, ↓ix_94, ↓ix_95, ↓ix_96, ↓ix_97, ↓ix_98, ↓ix_99, ↓ix_100, ↓ix_101, ↓ix_102, ↓ix_103, ↓ix_104, ↓ix_105, ↓ix_106, ↓ix_107, ↓ix_108, ↓ix_109, ↓ix_110, ↓ix_111, ↓ix_112, ↓ix_113, ↓ix_114, ↓ix_115, ↓ix_116, ↓ix_117, ↓ix_118, ↓ix_119, ↓ix_120, ↓ix_121, ↓ix_122, ↓ix_123, ↓ix_124, ↓ix_125, ↓ix_126, ↓ix_127, ↓ix_128, ↓ix_129, ↓ix_130, ↓ix_131, ↓ix_132, ↓ix_133, ↓ix_134, ↓ix_135, ↓ix_136, ↓ix_137, ↓ix_138, ↓ix_139, ↓ix_140, ↓ix_141, ↓ix_142, ↓ix_143, Option.bind_some, mx_wr_ne, mx_wr_at, mx_wr_off, mx_rf_ne, mx_no_ne, mx_if_t, Int.toNat_natCast, ix_1, ix_3, ix_4, ix_5, ix_6, ix_7, ix_8, ix_9, ix_10, ix_11, ix_12, ix_13, ix_14, ix_16, ix_17, ix_18, ix_19, ix_20, ix_21, ix_22, ix_23, ix_24, ix_25, ix_26, ix_27, ix_30, ix_31, ix_32, ix_34, ix_35, ix_36, ix_39, ix_40, ix_41, ix_42, ix_44, ix_45, ix_46, ix_47, ix_48, ix_49, ix_50, ix_51, ix_52, ix_53, ix_55, ix_56, ix_57, ix_59, ix_60, ix_61, ix_63, ix_64, ix_65, ix_67, ix_69, ix_71, ix_73, ix_75, ix_77, ix_79, ix_81, ix_83, ix_84, ix_85, ix_86, ix_87, ix_88, ix_89, ix_90, ix_91, ix_92, ix_93, ix_94, ix_95, ix_96, ix_97, ix_98, ix_99, ix_100, ix_101, ix_102, ix_103, ix_104, ix_105, ix_106, ix_107, ix_108, ix_109, ix_110, ix_111, ix_112, ix_113, ix_114, ix_115, ix_116, ix_117, ix_118, ix_119, ix_120, ix_121, ix_122, ix_123, ix_124, ix_125, ix_126, ix_127, ix_128, ix_129, ix_130, ix_131, ix_132, ix_133, ix_134, ix_135, ix_136, ix_137, ix_138, ix_139, ix_140, ix_141, ix_142, ix_143, true_and]; rfl) (by rw [mo_same_e]; (try simp only [Int.toNat_natCast, mx_fin1]); simp (disch := first | assumption | omega | decide) only [↓if_pos, ↓if_neg, ↓mx_bi_p, ↓mx_bi_n, ↓mx_m, ↓mx_if_t, ↓mx_if_f1, ↓mx_bd (pm_isShelf_s ..), ↓mx_bd (mo_isShelf_s ..), ↓mx_bd (pm_isColumn_s ..), ↓mx_bd (mo_isFrom_s ..), ↓mx_bd (mo_isGroup_s ..), ↓mx_bd (mo_isExpression_s ..), ↓mx_bd (me_isTable_s ..), ↓mx_bd (me_isExpression_s ..), ↓mx_bd (me_isGroup_s ..), ↓mx_bd (pm_isPriced_s ..), ↓mx_bd (pm_isOrder_s ..), ↓mx_bd (pm_isPlace_s ..), ↓mx_bd (mo_isDemand_s ..), ↓mx_bd (pm_isAllowable_s ..), ↓mx_bd (mo_isWay_s ..), ↓mx_bd (pm_refuse_s ..), ↓mx_bd (pm_refuseFar_s ..), ↓mx_bd (mo_no_s ..), ↓mx_bd (mo_noTen_s ..), ↓ix_1, ↓ix_3, ↓ix_4, ↓ix_5, ↓ix_6, ↓ix_7, ↓ix_8, ↓ix_9, ↓ix_10, ↓ix_11, ↓ix_12, ↓ix_13, ↓ix_14, ↓ix_16, ↓ix_17, ↓ix_18, ↓ix_19, ↓ix_20, ↓ix_21, ↓ix_22, ↓ix_23, ↓ix_24, ↓ix_25, ↓ix_26, ↓ix_27, ↓ix_30, ↓ix_31, ↓ix_32, ↓ix_34, ↓ix_35, ↓ix_36, ↓ix_39, ↓ix_40, ↓ix_41, ↓ix_42, ↓ix_44, ↓ix_45, ↓ix_46, ↓ix_47, ↓ix_48, ↓ix_49, ↓ix_50, ↓ix_51, ↓ix_52, ↓ix_53, ↓ix_55, ↓ix_56, ↓ix_57, ↓ix_59, ↓ix_60, ↓ix_61, ↓ix_63, ↓ix_64, ↓ix_65, ↓ix_67, ↓ix_69, ↓ix_71, ↓ix_73, ↓ix_75, ↓ix_77, ↓ix_79, ↓ix_81, ↓ix_83, ↓ix_84, ↓ix_85, ↓ix_86, ↓ix_87, ↓ix_88, ↓ix_89, ↓ix_90, ↓ix_91, ↓ix_92, ↓ix_93, ↓ix_94, ↓ix_95, ↓ix_96, ↓ix_97, ↓ix_98, ↓ix_99, ↓ix_100, ↓ix_101, ↓ix_102, ↓ix_103, ↓ix_104, ↓ix_105, ↓ix_106, ↓ix_107, ↓ix_108, ↓ix_109, ↓ix_110, ↓ix_111, ↓ix_112, ↓ix_113, ↓ix_114, ↓ix_115, ↓ix_116, ↓ix_117, ↓ix_118, ↓ix_119, ↓ix_120, ↓ix_121, ↓ix_122, ↓ix_123, ↓ix_124, ↓ix_125, ↓ix_126, ↓ix_127, ↓ix_128, ↓ix_129, ↓ix_130, ↓ix_131, ↓ix_132, ↓ix_133, ↓ix_134, ↓ix_135, ↓ix_136, ↓ix_137, ↓ix_138, ↓ix_139, ↓ix_140, ↓ix_141, ↓ix_142, ↓ix_143, Option.bind_some, mx_wr_ne, mx_wr_at, mx_wr_off, mx_rf_ne, mx_no_ne, mx_if_t, Int.toNat_natCast, ix_1, ix_3, ix_4, ix_5, ix_6, ix_7, ix_8, ix_9, ix_10, ix_11, ix_12, ix_13, ix_14, ix_16, ix_17, ix_18, ix_19, ix_20, ix_21, ix_22, ix_23, ix_24, ix_25, ix_26, ix_27, ix_30, ix_31, ix_32, ix_34, ix_35, ix_36, ix_39, ix_40, ix_41, ix_42, ix_44, ix_45, ix_46, ix_47, ix_48, ix_49, ix_50, ix_51, ix_52, ix_53, ix_55, ix_56, ix_57, ix_59, ix_60, ix_61, ix_63, ix_64, ix_65, ix_67, ix_69, ix_71, ix_73, ix_75, ix_77, ix_79, ix_81, ix_83, ix_84, ix_85, ix_86, ix_87, ix_88, ix_89, ix_90, ix_91, ix_92, ix_93, ix_94, ix_95, ix_96, ix_97, ix_98, ix_99, ix_100, ix_101, ix_102, ix_103, ix_104, ix_105, ix_106, ix_107, ix_108, ix_109, ix_110, ix_111, ix_112, ix_113, ix_114, ix_115, ix_116, ix_117, ix_118, ix_119, ix_120, ix_121, ix_122, ix_123, ix_124, ix_125, ix_126, ix_127, ix_128, ix_129, ix_130, ix_131, ix_132, ix_133, ix_134, ix_135, ix_136, ix_137, ix_138, ix_139, ix_140, ix_141, ix_142, ix_143, e82]; rfl)
  · exact mx_C_ref hI 1 (-1) (by rw [pm_same_e]; (try simp only [Int.toNat_natCast, mx_fin1]); simp (disch := first | assumption | omega | decide) only [↓if_pos, ↓if_neg, ↓mx_bi_p, ↓mx_bi_n, ↓mx_m, ↓mx_if_t, ↓mx_if_f1, ↓mx_bd (pm_isShelf_s ..), ↓mx_bd (mo_isShelf_s ..), ↓mx_bd (pm_isColumn_s ..), ↓mx_bd (mo_isFrom_s ..), ↓mx_bd (mo_isGroup_s ..), ↓mx_bd (mo_isExpression_s ..), ↓mx_bd (me_isTable_s ..), ↓mx_bd (me_isExpression_s ..), ↓mx_bd (me_isGroup_s ..), ↓mx_bd (pm_isPriced_s ..), ↓mx_bd (pm_isOrder_s ..), ↓mx_bd (pm_isPlace_s ..), ↓mx_bd (mo_isDemand_s ..), ↓mx_bd (pm_isAllowable_s ..), ↓mx_bd (mo_isWay_s ..), ↓mx_bd (pm_refuse_s ..), ↓mx_bd (pm_refuseFar_s ..), ↓mx_bd (mo_no_s ..), ↓mx_bd (mo_noTen_s ..), ↓ix_1, ↓ix_3, ↓ix_4, ↓ix_5, ↓ix_6, ↓ix_7, ↓ix_8, ↓ix_9, ↓ix_10, ↓ix_11, ↓ix_12, ↓ix_13, ↓ix_14, ↓ix_16, ↓ix_17, ↓ix_18, ↓ix_19, ↓ix_20, ↓ix_21, ↓ix_22, ↓ix_23, ↓ix_24, ↓ix_25, ↓ix_26, ↓ix_27, ↓ix_30, ↓ix_31, ↓ix_32, ↓ix_34, ↓ix_35, ↓ix_36, ↓ix_39, ↓ix_40, ↓ix_41, ↓ix_42, ↓ix_44, ↓ix_45, ↓ix_46, ↓ix_47, ↓ix_48, ↓ix_49, ↓ix_50, ↓ix_51, ↓ix_52, ↓ix_53, ↓ix_55, ↓ix_56, ↓ix_57, ↓ix_59, ↓ix_60, ↓ix_61, ↓ix_63, ↓ix_64, ↓ix_65, ↓ix_67, ↓ix_69, ↓ix_71, ↓ix_73, ↓ix_75, ↓ix_77, ↓ix_79, ↓ix_81, ↓ix_83, ↓ix_84, ↓ix_85, ↓ix_86, ↓ix_87, ↓ix_88, ↓ix_89, ↓ix_90, ↓ix_91, ↓ix_92, ↓ix_93, ↓ix_94, ↓ix_95, ↓ix_96, ↓ix_97, ↓ix_98, ↓ix_99, ↓ix_100, ↓ix_101, ↓ix_102, ↓ix_103, ↓ix_104, ↓ix_105, ↓ix_106, ↓ix_107, ↓ix_108, ↓ix_109, ↓ix_110, ↓ix_111, ↓ix_112, ↓ix_113, ↓ix_114, ↓ix_115, ↓ix_116, ↓ix_117, ↓ix_118, ↓ix_119, ↓ix_120, ↓ix_121, ↓ix_122, ↓ix_123, ↓ix_124, ↓ix_125, ↓ix_126, ↓ix_127, ↓ix_128, ↓ix_129, ↓ix_130, ↓ix_131, ↓ix_132, ↓ix_133, ↓ix_134, ↓ix_135, ↓ix_136, ↓ix_137, ↓ix_138, ↓ix_139, ↓ix_140, ↓ix_141, ↓ix_142, ↓ix_143, Option.bind_some, mx_wr_ne, mx_wr_at, mx_wr_off, mx_rf_ne, mx_no_ne, mx_if_t, Int.toNat_natCast, ix_1, ix_3, ix_4, ix_5, ix_6, ix_7, ix_8, ix_9, ix_10, ix_11, ix_12, ix_13, ix_14, ix_16, ix_17, ix_18, ix_19, ix_20, ix_21, ix_22, ix_23, ix_24, ix_25, ix_26, ix_27, ix_30, ix_31, ix_32, ix_34, ix_35, ix_36, ix_39, ix_40, ix_41, ix_42, ix_44, ix_45, ix_46, ix_47, ix_48, ix_49, ix_50, ix_51, ix_52, ix_53, ix_55, ix_56, ix_57, ix_59, ix_60, ix_61, ix_63, ix_64, ix_65, ix_67, ix_69, ix_71, ix_73, ix_75, ix_77, ix_79, ix_81, ix_83, ix_84, ix_85, ix_86, ix_87, ix_88, ix_89, ix_90, ix_91, ix_92, ix_93, ix_94, ix_95, ix_96, ix_97, ix_98, ix_99, ix_100, ix_101, ix_102, ix_103, ix_104, ix_105, ix_106, ix_107, ix_108, ix_109, ix_110, ix_111, ix_112, ix_113, ix_114, ix_115, ix_116, ix_117, ix_118, ix_119, ix_120, ix_121, ix_122, ix_123, ix_124, ix_125, ix_126, ix_127, ix_128, ix_129, ix_130, ix_131, ix_132, ix_133, ix_134, ix_135, ix_136, ix_137, ix_138, ix_139, ix_140, ix_141, ix_142, ix_143, true_and]; rfl) (by rw [mo_same_e]; (try simp only [Int.toNat_natCast, mx_fin1]); simp (disch := first | assumption | omega | decide) only [↓if_pos, ↓if_neg, ↓mx_bi_p, ↓mx_bi_n, ↓mx_m, ↓mx_if_t, ↓mx_if_f1, ↓mx_bd (pm_isShelf_s ..), ↓mx_bd (mo_isShelf_s ..), ↓mx_bd (pm_isColumn_s ..), ↓mx_bd (mo_isFrom_s ..), ↓mx_bd (mo_isGroup_s ..), ↓mx_bd (mo_isExpression_s ..), ↓mx_bd (me_isTable_s ..), ↓mx_bd (me_isExpression_s ..), ↓mx_bd (me_isGroup_s ..), ↓mx_bd (pm_isPriced_s ..), ↓mx_bd (pm_isOrder_s ..), ↓mx_bd (pm_isPlace_s ..), ↓mx_bd (mo_isDemand_s ..), ↓mx_bd (pm_isAllowable_s ..), ↓mx_bd (mo_isWay_s ..), ↓mx_bd (pm_refuse_s ..), ↓mx_bd (pm_refuseFar_s ..), ↓mx_bd (mo_no_s ..), ↓mx_bd (mo_noTen_s ..), ↓ix_1, ↓ix_3, ↓ix_4, ↓ix_5, ↓ix_6, ↓ix_7, ↓ix_8, ↓ix_9, ↓ix_10, ↓ix_11, ↓ix_12, ↓ix_13, ↓ix_14, ↓ix_16, ↓ix_17, ↓ix_18, ↓ix_19, ↓ix_20, ↓ix_21, ↓ix_22, ↓ix_23, ↓ix_24, ↓ix_25, ↓ix_26, ↓ix_27, ↓ix_30, ↓ix_31, ↓ix_32, ↓ix_34, ↓ix_35, ↓ix_36, ↓ix_39, ↓ix_40, ↓ix_41, ↓ix_42, ↓ix_44, ↓ix_45, ↓ix_46, ↓ix_47, ↓ix_48, ↓ix_49, ↓ix_50, ↓ix_51, ↓ix_52, ↓ix_53, ↓ix_55, ↓ix_56, ↓ix_57, ↓ix_59, ↓ix_60, ↓ix_61, ↓ix_63, ↓ix_64, ↓ix_65, ↓ix_67, ↓ix_69, ↓ix_71, ↓ix_73, ↓ix_75, ↓ix_77, ↓ix_79, ↓ix_81, ↓ix_83, ↓ix_84, ↓ix_85, ↓ix_86, ↓ix_87, ↓ix_88, ↓ix_89, ↓ix_90, ↓ix_91, ↓ix_92, ↓ix_93, ↓ix_94, ↓ix_95, ↓ix_96, ↓ix_97, ↓ix_98, ↓ix_99, ↓ix_100, ↓ix_101, ↓ix_102, ↓ix_103, ↓ix_104, ↓ix_105, ↓ix_106, ↓ix_107, ↓ix_108, ↓ix_109, ↓ix_110, ↓ix_111, ↓ix_112, ↓ix_113, ↓ix_114, ↓ix_115, ↓ix_116, ↓ix_117, ↓ix_118, ↓ix_119, ↓ix_120, ↓ix_121, ↓ix_122, ↓ix_123, ↓ix_124, ↓ix_125, ↓ix_126, ↓ix_127, ↓ix_128, ↓ix_129, ↓ix_130, ↓ix_131, ↓ix_132, ↓ix_133, ↓ix_134, ↓ix_135, ↓ix_136, ↓ix_137, ↓ix_138, ↓ix_139, ↓ix_140, ↓ix_141, ↓ix_142, ↓ix_143, Option.bind_some, mx_wr_ne, mx_wr_at, mx_wr_off, mx_rf_ne, mx_no_ne, mx_if_t, Int.toNat_natCast, ix_1, ix_3, ix_4, ix_5, ix_6, ix_7, ix_8, ix_9, ix_10, ix_11, ix_12, ix_13, ix_14, ix_16, ix_17, ix_18, ix_19, ix_20, ix_21, ix_22, ix_23, ix_24, ix_25, ix_26, ix_27, ix_30, ix_31, ix_32, ix_34, ix_35, ix_36, ix_39, ix_40, ix_41, ix_42, ix_44, ix_45, ix_46, ix_47, ix_48, ix_49, ix_50, ix_51, ix_52, ix_53, ix_55, ix_56, ix_57, ix_59, ix_60, ix_61, ix_63, ix_64, ix_65, ix_67, ix_69, ix_71, ix_73, ix_75, ix_77, ix_79, ix_81, ix_83, ix_84, ix_85, ix_86, ix_87, ix_88, ix_89, ix_90, ix_91, ix_92, ix_93, ix_94, ix_95, ix_96, ix_97, ix_98, ix_99, ix_100, ix_101, ix_102, ix_103, ix_104, ix_105, ix_106, ix_107, ix_108, ix_109, ix_110, ix_111, ix_112, ix_113, ix_114, ix_115, ix_116, ix_117, ix_118, ix_119, ix_120, ix_121, ix_122, ix_123, ix_124, ix_125, ix_126, ix_127, ix_128, ix_129, ix_130, ix_131, ix_132, ix_133, ix_134, ix_135, ix_136, ix_137, ix_138, ix_139, ix_140, ix_141, ix_142, ix_143, e82]; rfl)
end
