/-! an expression is added to a model -/
theorem mx_or_15 : ∀ a : Nat, a < 16 → ∀ b : Nat, b < 16 → 0 ≤ am_or (a : Int) (b : Int) ∧ am_or (a : Int) (b : Int) ≤ 15 := by decide +kernel
theorem mx_shl_4 : ∀ c : Nat, c < 4 → 0 ≤ am_shl 1 (c : Int) ∧ am_shl 1 (c : Int) ≤ 15 := by decide +kernel
theorem mx_cb_rg {k o a b : Int} (ha : 0 ≤ a ∧ a ≤ 15) (hb : 0 ≤ b ∧ b ≤ 15) : 0 ≤ mx_cb k o a b ∧ mx_cb k o a b ≤ 15 := by
  unfold mx_cb
  by_cases h4 : k = 4
  · rw [if_pos h4]
    by_cases ho : 0 ≤ o ∧ o < 4
    · rw [if_pos ho]
      have := mx_shl_4 o.toNat (by omega)
      rwa [Int.toNat_of_nonneg ho.1] at this
    · rw [if_neg ho]; exact ⟨by decide, by decide⟩
  · rw [if_neg h4]
    by_cases h5 : k = 5
    · rw [if_pos h5]
      have := mx_or_15 a.toNat (by omega) b.toNat (by omega)
      rwa [Int.toNat_of_nonneg ha.1, Int.toNat_of_nonneg hb.1] at this
    · rw [if_neg h5]; exact ha
section
variable {tn m g : Int} {TF D K P X Y H T C : Nat → Int}
/-- what may be told -/
def mx_lg (tn g : Int) (TF T C : Nat → Int) (k o x y : Int) : Prop :=
  mx_kd k ∧ (0 ≤ o ∧ o < 8) ∧ (k = 1 → o < tn) ∧ (4 ≤ k → o < 4) ∧ (k = 1 → x = -1) ∧ (k ≠ 1 → 0 ≤ x ∧ x < g ∧ T x.toNat = x) ∧ (k < 5 → y = -1) ∧ (5 ≤ k → 0 ≤ y ∧ y < g ∧ T y.toNat = y) ∧ mx_ft k o (mx_tc TF C k o x) (mx_yc C y) = true
theorem mx_al_no (hm : 0 ≤ m) {k o x y : Int} (h : mx_fi (mx_al K P X Y H k o x y) m.toNat 0 = -1) : ∀ e : Nat, (e : Int) < m → H e ≠ -1 → ¬ (K e = k ∧ P e = o ∧ X e = x ∧ Y e = y) := by
  rcases mx_fi_r (mx_al K P X Y H k o x y) m hm with ⟨-, h1⟩ | ⟨i, h1, -⟩
  · intro e he hH q
    have := h1 e he
    unfold mx_al at this
    rw [decide_eq_false_iff_not] at this
    exact this ⟨q.1, q.2.1, q.2.2.1, q.2.2.2, hH⟩
  · rw [h] at h1; omega
theorem mx_W_add (hW : mx_W tn m g TF D K P X Y H T C) {k o x y : Int} (hl : mx_lg tn g TF T C k o x y) (hal : mx_fi (mx_al K P X Y H k o x y) m.toNat 0 = -1) (hm : m < 143) {g' v : Int} {T' C' : Nat → Int}
    (hg' : (g' = g ∧ 0 ≤ v ∧ v < g ∧ T v.toNat = v) ∨ (g' = g + 1 ∧ v = g ∧ T' g.toNat = g)) (hT : ∀ i : Nat, (i : Int) < g → T' i = T i) (hC : ∀ i : Nat, (i : Int) < g → C' i = C i) (hCv : C' v.toNat = mx_cb k o (mx_tc TF C k o x) (mx_yc C y)) :
    mx_W tn (m + 1) g' TF D (mx_up K m.toNat k) (mx_up P m.toNat o) (mx_up X m.toNat x) (mx_up Y m.toNat y) (mx_up H m.toNat v) T' C' := by
  obtain ⟨w1, w2, w3, w4, w5, w6, w7, w8, w9⟩ := hW
  obtain ⟨l1, l2, l3, l4, l5, l6, l7, l8, l9⟩ := hl
  have no := mx_al_no (by omega) hal
  have up : ∀ (f : Nat → Int) (z : Int) (e : Nat), (e : Int) < m → mx_up f m.toNat z e = f e := fun f z e he => mx_up_ne (by omega)
  have hv : 0 ≤ v ∧ v < g' ∧ T' v.toNat = v := by
    rcases hg' with q | q
    · exact ⟨q.2.1, by omega, by rw [hT _ (by omega)]; exact q.2.2.2⟩
    · refine ⟨by omega, by omega, ?_⟩
      rw [q.2.1]; exact q.2.2
  have hgg : g ≤ g' ∧ g' ≤ g + 1 := by rcases hg' with q | q <;> omega
  have hnew : ∀ i : Nat, (i : Int) < g' → ¬ (i : Int) < g → (i : Int) = g ∧ v = g ∧ T' i = i := fun i h1 h2 => by
    rcases hg' with q | q
    · omega
    · have e : i = g.toNat := by omega
      exact ⟨by omega, q.2.1, by rw [e, q.2.2]; omega⟩
  have e1 : mx_tc TF C' k o x = mx_tc TF C k o x := by
    unfold mx_tc
    by_cases q : k = 1
    · rw [if_pos q, if_pos q]
    · rw [if_neg q, if_neg q, if_pos (l6 q).1, if_pos (l6 q).1, hC _ (by have := l6 q; omega)]
  have e2 : mx_yc C' y = mx_yc C y := by
    unfold mx_yc
    by_cases q : 0 ≤ y
    · have : 5 ≤ k := by
        rcases Int.lt_or_le k 5 with z | z
        · have := l7 z; omega
        · exact z
      rw [if_pos q, if_pos q, hC _ (by have := l8 this; omega)]
    · rw [if_neg q, if_neg q]
  have rt : 0 ≤ mx_tc TF C k o x ∧ mx_tc TF C k o x ≤ 15 := by
    unfold mx_tc
    by_cases q : k = 1
    · rw [if_pos q]
      have := (w1.2.1 o.toNat (by have := l3 q; omega)).2.1
      rw [show (4 * o + 1).toNat = 4 * o.toNat + 1 by omega]
      omega
    · rw [if_neg q, if_pos (l6 q).1]
      exact (w8 x.toNat (by have := l6 q; omega)).2
  have ry : 0 ≤ mx_yc C y ∧ mx_yc C y ≤ 15 := by
    unfold mx_yc
    by_cases q : 0 ≤ y
    · have : 5 ≤ k := by
        rcases Int.lt_or_le k 5 with z | z
        · have := l7 z; omega
        · exact z
      rw [if_pos q]
      exact (w8 y.toNat (by have := l8 this; omega)).2
    · rw [if_neg q]; exact ⟨by decide, by decide⟩
  refine ⟨w1, ⟨by omega, by omega, by omega⟩, ⟨fun e he => ?_, fun i hi => ?_⟩, fun e he => ?_, fun e f hef hf => ?_, fun i hi hT2 => ?_, fun e he => ?_, fun i hi => ?_, fun e he => ?_⟩
  · by_cases q : e = m.toNat
    · subst q
      rw [mx_up_at, mx_up_at, mx_up_at]
      intro _
      refine ⟨hv, ?_, ?_⟩
      · by_cases z : k = 1
        · exact Or.inl (l5 z)
        · have := l6 z
          exact Or.inr ⟨this.1, by omega, by rw [hT _ (by omega)]; exact this.2.2⟩
      · by_cases z : k < 5
        · exact Or.inl (l7 z)
        · have := l8 (by omega)
          exact Or.inr ⟨this.1, by omega, by rw [hT _ (by omega)]; exact this.2.2⟩
    · rw [up H v e (by omega), up X x e (by omega), up Y y e (by omega)]
      intro hH
      obtain ⟨b1, b2, b3⟩ := w3.1 e (by omega) hH
      refine ⟨⟨b1.1, by omega, by rw [hT _ (by omega)]; exact b1.2.2⟩, ?_, ?_⟩
      · rcases b2 with z | z
        · exact Or.inl z
        · exact Or.inr ⟨z.1, by omega, by rw [hT _ (by omega)]; exact z.2.2⟩
      · rcases b3 with z | z
        · exact Or.inl z
        · exact Or.inr ⟨z.1, by omega, by rw [hT _ (by omega)]; exact z.2.2⟩
  · by_cases q : (i : Int) < g
    · have := w3.2 i q
      rw [hT i q, hT _ (by omega)]; exact this
    · obtain ⟨a1, a2, a3⟩ := hnew i hi q
      rw [a3, Int.toNat_natCast]
      exact ⟨by omega, by omega, a3⟩
  · by_cases q : e = m.toNat
    · subst q
      unfold mx_ke
      rw [mx_up_at, mx_up_at, mx_up_at, mx_up_at, mx_up_at]
      refine ⟨l1, l2, l3, l4, fun z => by omega, fun _ => ⟨⟨l5, fun z => ?_⟩, l7, fun z => ?_⟩⟩
      · rcases Decidable.em (k = 1) with w | w
        · exact w
        · have := l6 w; omega
      · rcases Int.lt_or_le k 5 with w | w
        · exact w
        · have := l8 w; omega
    · unfold mx_ke
      rw [up K k e (by omega), up P o e (by omega), up H v e (by omega), up X x e (by omega), up Y y e (by omega)]
      exact w4 e (by omega)
  · by_cases q : f = m.toNat
    · subst q
      rw [mx_up_at, mx_up_at, mx_up_at, mx_up_at, mx_up_at, up K k e (by omega), up P o e (by omega), up H v e (by omega), up X x e (by omega), up Y y e (by omega)]
      intro h1 _
      exact no e (by omega) h1
    · rw [up K k e (by omega), up P o e (by omega), up H v e (by omega), up X x e (by omega), up Y y e (by omega), up K k f (by omega), up P o f (by omega), up H v f (by omega), up X x f (by omega), up Y y f (by omega)]
      exact w5 e f hef (by omega)
  · by_cases q : (i : Int) < g
    · rw [hT i q] at hT2
      obtain ⟨e, he, hH⟩ := w6 i q hT2
      exact ⟨e, by omega, by rw [up H v e he]; exact hH⟩
    · obtain ⟨a1, a2, a3⟩ := hnew i hi q
      exact ⟨m.toNat, by omega, by rw [mx_up_at]; omega⟩
  · by_cases q : e = m.toNat
    · subst q
      unfold mx_le
      rw [mx_up_at, mx_up_at, mx_up_at]
      refine fun _ => ⟨fun z => ?_, fun z => ?_⟩
      · have hk : k ≠ 1 := fun w => z (l5 w)
        have := l6 hk
        obtain ⟨f, f1, f2⟩ := w6 x.toNat (by omega) (by omega)
        exact ⟨f, by omega, by rw [up H v f f1]; omega⟩
      · have hk : 5 ≤ k := by
          rcases Int.lt_or_le k 5 with w | w
          · exact absurd (l7 w) z
          · exact w
        have := l8 hk
        obtain ⟨f, f1, f2⟩ := w6 y.toNat (by omega) (by omega)
        exact ⟨f, by omega, by rw [up H v f f1]; omega⟩
    · unfold mx_le
      rw [up H v e (by omega), up X x e (by omega), up Y y e (by omega)]
      intro hH
      obtain ⟨b1, b2⟩ := w7 e (by omega) hH
      refine ⟨fun z => ?_, fun z => ?_⟩
      · obtain ⟨f, f1, f2⟩ := b1 z
        exact ⟨f, f1, by rw [up H v f (by omega)]; exact f2⟩
      · obtain ⟨f, f1, f2⟩ := b2 z
        exact ⟨f, f1, by rw [up H v f (by omega)]; exact f2⟩
  · by_cases q : (i : Int) < g
    · have := w3.2 i q
      rw [hT i q, hC i q, hC _ (by omega)]
      exact w8 i q
    · obtain ⟨a1, a2, a3⟩ := hnew i hi q
      have e3 : i = v.toNat := by omega
      rw [a3, Int.toNat_natCast]
      refine ⟨rfl, ?_⟩
      rw [e3, hCv]
      exact mx_cb_rg rt ry
  · by_cases q : e = m.toNat
    · subst q
      rw [mx_up_at, mx_up_at, mx_up_at, mx_up_at, mx_up_at, e1, e2]
      exact fun _ => ⟨hCv, l9⟩
    · rw [up K k e (by omega), up P o e (by omega), up H v e (by omega), up X x e (by omega), up Y y e (by omega)]
      intro hH
      have s := w3.1 e (by omega) hH
      have e3 : mx_tc TF C' (K e) (P e) (X e) = mx_tc TF C (K e) (P e) (X e) := by
        unfold mx_tc
        by_cases z : K e = 1
        · rw [if_pos z, if_pos z]
        · rw [if_neg z, if_neg z]
          by_cases r : 0 ≤ X e
          · rw [if_pos r, if_pos r, hC _ (by rcases s.2.1 with z | z <;> omega)]
          · rw [if_neg r, if_neg r]
      have e4 : mx_yc C' (Y e) = mx_yc C (Y e) := by
        unfold mx_yc
        by_cases r : 0 ≤ Y e
        · rw [if_pos r, if_pos r, hC _ (by rcases s.2.2 with z | z <;> omega)]
        · rw [if_neg r, if_neg r]
      rw [e3, e4, hC _ (by have := s.1; omega)]
      exact w9 e (by omega) hH
theorem mx_Mb_add {M M1 : Nat → Int} (h : mx_Mb m g H M) (hS : mx_sh m g K X Y H T) (hm : 0 ≤ m ∧ m < 64) (h0 : 0 ≤ g) {g' v : Int} (hM : ∀ i : Nat, (i : Int) < g → M1 i = M i) (hg' : (g' = g ∧ 0 ≤ v ∧ v < g) ∨ (g' = g + 1 ∧ v = g ∧ M1 g.toNat = 0)) :
    mx_Mb (m + 1) g' (mx_up H m.toNat v) (mx_up M1 v.toNat (am_lor (M1 v.toNat) (am_lshl 1 m))) := by
  intro i hi e he
  have b1 : mx_bt (am_lor (M1 v.toNat) (am_lshl 1 m)) e = (mx_bt (M1 v.toNat) e || decide (e = m.toNat)) := by rw [mx_bt_or, mx_bt_1 m hm.1 hm.2 e he]
  have b2 : mx_bt (M1 v.toNat) e = true ↔ (e : Int) < m ∧ H e = v := by
    rcases hg' with q | q
    · rw [hM _ (by omega), h v.toNat (by omega) e he]
      rw [Int.toNat_of_nonneg q.2.1]
    · rw [q.2.1, q.2.2, mx_bt_0]
      refine ⟨fun z => (by cases z), fun z => ?_⟩
      have := (hS.1 e z.1 (by omega)).1
      omega
  by_cases q : i = v.toNat
  · subst q
    rw [mx_up_at, b1, Bool.or_eq_true, b2, decide_eq_true_iff]
    by_cases z : e = m.toNat
    · subst z
      rw [mx_up_at]
      exact ⟨fun _ => ⟨by omega, by omega⟩, fun _ => Or.inr rfl⟩
    · rw [mx_up_ne z]
      refine ⟨fun w => ?_, fun w => Or.inl ⟨by omega, by omega⟩⟩
      rcases w with w | w
      · exact ⟨by omega, by omega⟩
      · exact absurd w z
  · have hi2 : (i : Int) < g := by rcases hg' with z | z <;> omega
    rw [mx_up_ne q, hM i hi2, h i hi2 e he]
    by_cases z : e = m.toNat
    · subst z
      rw [mx_up_at]
      refine ⟨fun w => by omega, fun w => ?_⟩
      have : 0 ≤ v := by rcases hg' with u | u <;> omega
      omega
    · rw [mx_up_ne z]
      exact ⟨fun w => ⟨by omega, w.2⟩, fun w => ⟨by omega, w.2⟩⟩
theorem mx_Fg_more {S W K' P' X' Y' H' C' : Nat → Int} (hS : mx_sh m g K X Y H T) (h : mx_Fg m K P X Y H C S W) {m' : Int} (hm : m ≤ m') (h1 : ∀ e : Nat, (e : Int) < m → K' e = K e ∧ P' e = P e ∧ X' e = X e ∧ Y' e = Y e ∧ H' e = H e) (h2 : ∀ i : Nat, (i : Int) < g → C' i = C i) : mx_Fg m' K' P' X' Y' H' C' S W := by
  obtain ⟨f0, f1, f2⟩ := mx_Fg_cong hS h h1 h2 (S' := S) (W' := W) (fun _ _ => rfl) (fun _ _ => rfl)
  refine ⟨f0, fun e he => ⟨(f1 e he).1, fun q => (f1 e he).2 (by omega)⟩, fun e r f he hr1 hr2 hf => ?_⟩
  obtain ⟨a, b, c⟩ := f2 e r f he hr1 hr2 hf
  refine ⟨a, fun q => ?_, fun q => c (by omega)⟩
  rcases b q with z | ⟨z1, z2, z3⟩
  · exact Or.inl z
  · exact Or.inr ⟨by omega, by omega, z3⟩
end
abbrev mx_Wm (σ : am_M) : Prop := mx_W (σ 2 0) (σ 2 3) (σ 2 9) (σ 3) (σ 4) (σ 5) (σ 6) (σ 7) (σ 8) (σ 9) (σ 10) (σ 11)
abbrev mx_Rs (σ τ : am_M) : Prop := mx_R (σ 2 3) (σ 2 9) (σ 5) (σ 6) (σ 7) (σ 8) (σ 9) (σ 10) τ
abbrev mx_lm (σ : am_M) (k o x y : Int) : Prop := mx_lg (σ 2 0) (σ 2 9) (σ 3) (σ 10) (σ 11) k o x y
abbrev mx_fm (σ : am_M) (k o x y : Int) : Int := mx_fi (mx_al (σ 5) (σ 6) (σ 7) (σ 8) (σ 9) k o x y) (σ 2 3).toNat 0
theorem mx_tln_c {σ : am_M} {k o x y : Int} (hl : mx_lm σ k o x y) : (mx_tln σ k o x y) 5 = mx_up (σ 5) (σ 2 3).toNat k ∧ (mx_tln σ k o x y) 6 = mx_up (σ 6) (σ 2 3).toNat o ∧ (mx_tln σ k o x y) 7 = mx_up (σ 7) (σ 2 3).toNat x ∧ (mx_tln σ k o x y) 8 = mx_up (σ 8) (σ 2 3).toNat y ∧
    (mx_tln σ k o x y) 9 = mx_up (σ 9) (σ 2 3).toNat (σ 2 9) ∧ (mx_tln σ k o x y) 10 = mx_up (σ 10) (σ 2 9).toNat (σ 2 9) ∧ (mx_tln σ k o x y) 11 = mx_up (σ 11) (σ 2 9).toNat (mx_cb k o (mx_tc (σ 3) (σ 11) k o x) (mx_yc (σ 11) y)) ∧
    (mx_tln σ k o x y) 12 = mx_up (mx_up (σ 12) (σ 2 9).toNat 0) (σ 2 9).toNat (am_lor 0 (am_lshl 1 (σ 2 3))) ∧ (mx_tln σ k o x y) 2 3 = σ 2 3 + 1 ∧ (mx_tln σ k o x y) 2 9 = σ 2 9 + 1 ∧ (mx_tln σ k o x y) 2 17 = am_w (σ 2 17 + 1) ∧ mx_Fq [5, 6, 7, 8, 9, 10, 11, 12] [(2, 3), (2, 9), (2, 17)] σ (mx_tln σ k o x y) := by
  obtain ⟨l1, l2, l3, l4, l5, l6, l7, l8, l9⟩ := hl
  have e1 : (if k = 1 then (if 0 ≤ o ∧ o < σ 2 0 then σ 3 (4 * o + 1).toNat else 0) else (if 0 ≤ x ∧ x < σ 2 9 then σ 11 x.toNat else 0)) = mx_tc (σ 3) (σ 11) k o x := by
    unfold mx_tc
    by_cases q : k = 1
    · rw [if_pos q, if_pos q, if_pos ⟨l2.1, l3 q⟩]
    · have := l6 q
      rw [if_neg q, if_neg q, if_pos ⟨this.1, this.2.1⟩, if_pos this.1]
  have e2 : (if 0 ≤ y ∧ y < σ 2 9 then σ 11 y.toNat else 0) = mx_yc (σ 11) y := by
    unfold mx_yc
    by_cases q : k < 5
    · have := l7 q
      rw [if_neg (by omega), if_neg (by omega)]
    · have := l8 (by omega)
      rw [if_pos ⟨this.1, this.2.1⟩, if_pos this.1]
  unfold mx_tln
  rw [e1, e2]
  unfold mx_ato
  refine ⟨?_, ?_, ?_, ?_, ?_, ?_, ?_, ?_, ?_, ?_, ?_, ?_⟩
  · simp (disch := first | omega | decide) only [mx_wr_ne, mx_wr_off, mx_wr_up]
  · simp (disch := first | omega | decide) only [mx_wr_ne, mx_wr_off, mx_wr_up]
  · simp (disch := first | omega | decide) only [mx_wr_ne, mx_wr_off, mx_wr_up]
  · simp (disch := first | omega | decide) only [mx_wr_ne, mx_wr_off, mx_wr_up]
  · simp (disch := first | omega | decide) only [mx_wr_ne, mx_wr_off, mx_wr_up]
  · simp (disch := first | omega | decide) only [mx_wr_ne, mx_wr_off, mx_wr_up]
  · simp (disch := first | omega | decide) only [mx_wr_ne, mx_wr_off, mx_wr_up]
  · simp (disch := first | omega | decide) only [mx_wr_ne, mx_wr_off, mx_wr_up, mx_wr_at, mx_up_at]
  · simp (disch := first | omega | decide) only [mx_wr_ne, mx_wr_off, mx_wr_at]
  · simp (disch := first | omega | decide) only [mx_wr_ne, mx_wr_off, mx_wr_at]
  · simp (disch := first | omega | decide) only [mx_wr_ne, mx_wr_off, mx_wr_at]
  · exact mx_fq_wr (mx_fq_wr (mx_fq_wr (mx_fq_wr (mx_fq_wr (mx_fq_wr (mx_fq_wr (mx_fq_wr (mx_fq_wr (mx_fq_wc (mx_fq_wc (mx_fq_wr mx_fq_rf rfl) rfl) rfl) rfl) rfl) rfl) rfl) rfl) rfl) rfl) rfl) rfl
section
variable {σ : am_M} {k o x y : Int}
theorem mx_tln_W (hW : mx_Wm σ) (hl : mx_lm σ k o x y) (hal : mx_fm σ k o x y = -1) (hm : σ 2 3 < 143) : mx_Wm (mx_tln σ k o x y) := by
  obtain ⟨c5, c6, c7, c8, c9, c10, c11, c12, c3, c99, c17, cF⟩ := mx_tln_c hl
  have w2 := hW.2.1
  show mx_W ((mx_tln σ k o x y) 2 0) ((mx_tln σ k o x y) 2 3) ((mx_tln σ k o x y) 2 9) ((mx_tln σ k o x y) 3) ((mx_tln σ k o x y) 4) ((mx_tln σ k o x y) 5) ((mx_tln σ k o x y) 6) ((mx_tln σ k o x y) 7) ((mx_tln σ k o x y) 8) ((mx_tln σ k o x y) 9) ((mx_tln σ k o x y) 10) ((mx_tln σ k o x y) 11)
  rw [c5, c6, c7, c8, c9, c10, c11, c3, c99, cF 2 0 (by decide) (by decide), show (mx_tln σ k o x y) 3 = σ 3 from funext fun j => cF 3 j (by decide) (by simp), show (mx_tln σ k o x y) 4 = σ 4 from funext fun j => cF 4 j (by decide) (by simp)]
  exact mx_W_add hW hl hal hm (Or.inr ⟨rfl, rfl, mx_up_at⟩) (fun i hi => mx_up_ne (by omega)) (fun i hi => mx_up_ne (by omega)) mx_up_at
theorem mx_tln_M (hW : mx_Wm σ) (hM : mx_Mb (σ 2 3) (σ 2 9) (σ 9) (σ 12)) (hl : mx_lm σ k o x y) (hm : σ 2 3 < 64) : mx_Mb ((mx_tln σ k o x y) 2 3) ((mx_tln σ k o x y) 2 9) ((mx_tln σ k o x y) 9) ((mx_tln σ k o x y) 12) := by
  obtain ⟨c5, c6, c7, c8, c9, c10, c11, c12, c3, c99, c17, cF⟩ := mx_tln_c hl
  have w2 := hW.2.1
  rw [c9, c12, c3, c99]
  have := mx_Mb_add (M1 := mx_up (σ 12) (σ 2 9).toNat 0) (v := σ 2 9) hM hW.2.2.1 ⟨by omega, hm⟩ w2.1 (fun i hi => mx_up_ne (by omega)) (Or.inr ⟨rfl, rfl, mx_up_at⟩)
  rw [mx_up_at] at this
  exact this
theorem mo_told_m {τ : am_M} (hR : mx_Rs σ τ) (hl : mx_lm σ k o x y) (d n : Nat) (x' y' : Int) (hm : σ 2 3 < 143) (hx : k ≠ 1 → (0 ≤ x' ∧ x' < σ 2 9) ∧ σ 10 x'.toNat = x) (hy : 5 ≤ k → (0 ≤ y' ∧ y' < σ 2 9) ∧ σ 10 y'.toNat = y) :
    (mx_fm σ k o x y = -1 → ∃ τ' : am_M, mo_told (d + 3) k o x' y' τ n = some (σ 2 9, τ', n) ∧ mx_Fq [89, 90, 91, 92, 93, 94, 95] [(82, 1), (82, 2)] τ τ' ∧ mx_Rs (mx_tln σ k o x y) τ') ∧
    (∀ e : Nat, mx_fm σ k o x y = (e : Int) → mo_told (d + 3) k o x' y' τ n = some (σ 9 e, τ, n)) := by
  obtain ⟨c5, c6, c7, c8, c9, c10, c11, c12, c3, c99, c17, cF⟩ := mx_tln_c hl
  obtain ⟨l1, l2, l3, l4, l5, l6, l7, l8, l9⟩ := hl
  have ex : mx_xk k x' (σ 10) = x := by
    unfold mx_xk
    by_cases q : k = 1
    · rw [if_pos q, l5 q]
    · rw [if_neg q, (hx q).2]
  have ey : mx_yk k y' (σ 10) = y := by
    unfold mx_yk
    by_cases q : k < 5
    · rw [if_pos q, l7 q]
    · rw [if_neg q, (hy (by omega)).2]
  obtain ⟨h1, h2⟩ := mo_told_s hR d n k o x' y' hm (fun q => (hx q).1) (fun q => (hy q).1)
  rw [ex, ey] at h1 h2
  refine ⟨fun q => ?_, h2⟩
  obtain ⟨τ', p1, p2, p3, p4⟩ := h1 q
  refine ⟨τ', p1, ?_, ?_⟩
  · exact mx_fq_up (mx_fq_cell (c := 82) (C := [89, 90, 91, 92, 93, 94, 95]) (J := [1, 2]) p2 (fun j hj => p3 j (by rintro rfl; exact absurd hj (by decide)) (by rintro rfl; exact absurd hj (by decide)))) rfl
  · show mx_R ((mx_tln σ k o x y) 2 3) ((mx_tln σ k o x y) 2 9) ((mx_tln σ k o x y) 5) ((mx_tln σ k o x y) 6) ((mx_tln σ k o x y) 7) ((mx_tln σ k o x y) 8) ((mx_tln σ k o x y) 9) ((mx_tln σ k o x y) 10) τ'
    rw [c5, c6, c7, c8, c9, c10, c3, c99]
    exact p4
/-- whether it may be -/
theorem mo_may_s {τ : am_M} (hW : mx_Wm σ) (hR : mx_Rs σ τ) (hT : mx_RT (σ 2 0) (σ 3) (σ 4) τ) (d n : Nat) (k p x' y' : Int) (hk : mx_kd k) (hk1 : k ≠ 1) (hx : 0 ≤ x' ∧ x' < σ 2 9) (hy : 5 ≤ k → 0 ≤ y' ∧ y' < σ 2 9) (b : Int) (hb : 5 ≤ k → b = σ 11 (σ 10 y'.toNat).toNat) :
    ∃ τ' : am_M, mo_may (d + 3) k p x' y' τ n = some (mx_b (mx_ft k p (σ 11 (σ 10 x'.toNat).toNat) b), τ', n) ∧ mx_Fr [104, 105, 106] τ τ' := by
  obtain ⟨τ', p1, p2, p3⟩ := mo_tells_s hW hR hT d n
  refine ⟨τ', ?_, p2⟩
  have hR' : mx_Rs σ τ' := mx_R_fr hR (p2 89 (by decide)) (p2 90 (by decide)) (p2 91 (by decide)) (p2 92 (by decide)) (p2 93 (by decide)) (p2 94 (by decide)) (p2 95 (by decide)) (congrFun (p2 82 (by decide)) 1) (congrFun (p2 82 (by decide)) 2)
  have w2 := hW.2.1
  have rt : ∀ z : Int, 0 ≤ z → z < σ 2 9 → (0 ≤ σ 10 z.toNat ∧ σ 10 z.toNat < σ 2 9) ∧ τ' 105 (σ 10 z.toNat).toNat = σ 11 (σ 10 z.toNat).toNat := fun z h0 h1 => by
    have := hW.2.2.1.2 z.toNat (by omega)
    exact ⟨⟨this.1, by omega⟩, (p3 _ (by omega) (by rw [this.2.2]; omega)).2.1⟩
  have fin : ∀ q : Int, mo_may_16 (d + 2) k x' y' q τ' n = some (mx_b (mx_hc (σ 11 (σ 10 x'.toNat).toNat) q && (decide (k < 5) || mx_hc b q)), τ', n) := by
    intro q
    rw [mo_may_16_e, mo_root_r hR' (d + 1) n x' hx.1 hx.2, Option.bind_some]
    have r1 := rt x' hx.1 hx.2
    simp (disch := first | omega | decide) only [ix_105]
    rw [mo_isColumn_s, Option.bind_some, r1.2]
    cases hh : mx_hc (σ 11 (σ 10 x'.toNat).toNat) q with
    | false => rfl
    | true =>
      rw [Bool.true_and]
      by_cases h5 : k < 5
      · rw [if_neg (show ¬ (mx_b true = 0) by decide), if_pos h5, decide_eq_true h5]; rfl
      · have hy' := hy (by omega)
        have r2 := rt y' hy'.1 hy'.2
        rw [if_neg (show ¬ (mx_b true = 0) by decide), if_neg h5, decide_eq_false h5, Bool.false_or, mo_root_r hR' (d + 1) n y' hy'.1 hy'.2, Option.bind_some]
        simp (disch := first | omega | decide) only [ix_105]
        rw [mo_isColumn_s, Option.bind_some, r2.2, hb (by omega)]
        cases mx_hc (σ 11 (σ 10 y'.toNat).toNat) q <;> rfl
  rw [mo_may_e, p1, Option.bind_some]
  unfold mx_ft
  rw [if_neg hk1]
  by_cases h3 : k = 3
  · rw [if_pos h3, if_pos h3, fin, decide_eq_true (by omega), Bool.true_or, Bool.and_true]
  · rw [if_neg h3, if_neg h3, fin]
    by_cases h4 : k = 4
    · rw [if_pos h4, decide_eq_true (by omega), Bool.true_or, Bool.and_true]
    · rw [if_neg h4, decide_eq_false (by rcases hk with q | q | q | q | q <;> omega), Bool.false_or]
end
