/-! THE IMAGE -/
section
variable {tn m g : Int} {TF D K P X Y H T C TF' D' K' P' X' Y' H' T' C' : Nat → Int}
theorem mx_W_cong (h : mx_W tn m g TF D K P X Y H T C) (hTF : ∀ i : Nat, (i : Int) < 4 * tn → TF' i = TF i) (hD : ∀ c : Nat, c < 4 → D' c = D c)
    (h1 : ∀ e : Nat, (e : Int) < m → K' e = K e ∧ P' e = P e ∧ X' e = X e ∧ Y' e = Y e ∧ H' e = H e) (h2 : ∀ i : Nat, (i : Int) < g → T' i = T i ∧ C' i = C i) : mx_W tn m g TF' D' K' P' X' Y' H' T' C' := by
  obtain ⟨w1, w2, w3, w4, w5, w6, w7, w8⟩ := h
  have hT0 := w3.2
  refine ⟨⟨w1.1, fun t ht => ?_, fun c hc => by rw [hD c hc]; exact w1.2.2 c hc⟩, w2, ⟨fun e he => ?_, fun i hi => ?_⟩, fun e he => ?_, fun e f hef hf => ?_, fun i hi hT => ?_, fun e he => ?_, fun i hi => ?_, fun e he => ?_⟩
  · rw [hTF _ (by omega), hTF _ (by omega), hTF _ (by omega), hTF _ (by omega)]
    exact w1.2.1 t ht
  · obtain ⟨a1, a2, a3, a4, a5⟩ := h1 e he
    rw [a3, a4, a5]
    intro hH
    obtain ⟨b1, b2, b3⟩ := w3.1 e he hH
    refine ⟨⟨b1.1, b1.2.1, by rw [(h2 _ (by omega)).1]; exact b1.2.2⟩, ?_, ?_⟩
    · rcases b2 with q | q
      · exact Or.inl q
      · exact Or.inr ⟨q.1, q.2.1, by rw [(h2 _ (by omega)).1]; exact q.2.2⟩
    · rcases b3 with q | q
      · exact Or.inl q
      · exact Or.inr ⟨q.1, q.2.1, by rw [(h2 _ (by omega)).1]; exact q.2.2⟩
  · have := w3.2 i hi
    rw [(h2 i hi).1, (h2 _ (by omega)).1]
    exact this
  · obtain ⟨a1, a2, a3, a4, a5⟩ := h1 e he
    have := w4 e he
    unfold mx_ke at this ⊢
    rw [a1, a2, a3, a4, a5]
    exact this
  · obtain ⟨a1, a2, a3, a4, a5⟩ := h1 e (by omega)
    obtain ⟨b1, b2, b3, b4, b5⟩ := h1 f hf
    rw [a1, a2, a3, a4, a5, b1, b2, b3, b4, b5]
    exact w5 e f hef hf
  · rw [(h2 i hi).1] at hT
    obtain ⟨e, he, hH⟩ := w6 i hi hT
    exact ⟨e, he, by rw [(h1 e he).2.2.2.2]; exact hH⟩
  · obtain ⟨a1, a2, a3, a4, a5⟩ := h1 e he
    rw [a5]
    intro hH
    obtain ⟨b1, b2⟩ := w7 e he hH
    unfold mx_le
    rw [a3, a4]
    refine ⟨fun q => ?_, fun q => ?_⟩
    · obtain ⟨f, f1, f2⟩ := b1 q
      exact ⟨f, f1, by rw [(h1 f (by omega)).2.2.2.2]; exact f2⟩
    · obtain ⟨f, f1, f2⟩ := b2 q
      exact ⟨f, f1, by rw [(h1 f (by omega)).2.2.2.2]; exact f2⟩
  · have := w3.2 i hi
    rw [(h2 i hi).1, (h2 i hi).2, (h2 _ (by omega)).2]
    exact w8.1 i hi
  · obtain ⟨a1, a2, a3, a4, a5⟩ := h1 e he
    rw [a1, a2, a3, a4, a5]
    intro hH
    have s := w3.1 e he hH
    have k := w4 e he
    have e1 : mx_tc TF' C' (K e) (P e) (X e) = mx_tc TF C (K e) (P e) (X e) := by
      unfold mx_tc
      by_cases q : K e = 1
      · rw [if_pos q, if_pos q, hTF _ (by have := k.2.2.1 q; have := k.2.1; omega)]
      · rw [if_neg q, if_neg q]
        by_cases r : 0 ≤ X e
        · rw [if_pos r, if_pos r, (h2 _ (by rcases s.2.1 with z | z <;> omega)).2]
        · rw [if_neg r, if_neg r]
    have e2 : mx_yc C' (Y e) = mx_yc C (Y e) := by
      unfold mx_yc
      by_cases r : 0 ≤ Y e
      · rw [if_pos r, if_pos r, (h2 _ (by rcases s.2.2 with z | z <;> omega)).2]
      · rw [if_neg r, if_neg r]
    rw [e1, e2, (h2 _ (by have := s.1; omega)).2]
    exact w8.2 e he hH
theorem mx_Mb_cong {H M H' M' : Nat → Int} (h : mx_Mb m g H M) (h1 : ∀ e : Nat, (e : Int) < m → H' e = H e) (h2 : ∀ i : Nat, (i : Int) < g → M' i = M i) : mx_Mb m g H' M' := by
  intro i hi e he
  rw [h2 i hi, h i hi e he]
  constructor
  · rintro ⟨a, b⟩; exact ⟨a, by rw [h1 e a]; exact b⟩
  · rintro ⟨a, b⟩; exact ⟨a, by rw [← h1 e a]; exact b⟩
theorem mx_Fg_cong {S W S' W' : Nat → Int} (hS : mx_sh m g K X Y H T) (h : mx_Fg m K P X Y H C S W) (h1 : ∀ e : Nat, (e : Int) < m → K' e = K e ∧ P' e = P e ∧ X' e = X e ∧ Y' e = Y e ∧ H' e = H e) (h2 : ∀ i : Nat, (i : Int) < g → C' i = C i)
    (h3 : ∀ i : Nat, i < 448 → S' i = S i) (h4 : ∀ i : Nat, i < 29120 → W' i = W i) : mx_Fg m K' P' X' Y' H' C' S' W' := by
  obtain ⟨f0, f1, f2⟩ := h
  refine ⟨fun i hi => by rw [h4 i hi]; exact f0 i hi, fun e he => by rw [h3 _ (by omega), h4 _ (by omega)]; exact f1 e he, fun e r f he hr1 hr2 hf => ?_⟩
  have := f2 e r f he hr1 hr2 hf
  rw [h3 _ (by omega), h4 _ (by omega)]
  refine ⟨this.1, fun q => ?_, this.2.2⟩
  rcases this.2.1 q with z | ⟨z1, z2, z3⟩
  · exact Or.inl z
  · refine Or.inr ⟨z1, z2, ?_⟩
    obtain ⟨a1, a2, a3, a4, a5⟩ := h1 e z1
    obtain ⟨b1, b2, b3, b4, b5⟩ := h1 f z2
    rw [a5, b5]
    intro q1 q2
    have s := hS.1 f z2 q2
    have e1 : mx_yc C' (Y f) = mx_yc C (Y f) := by
      unfold mx_yc
      by_cases r : 0 ≤ Y f
      · rw [if_pos r, if_pos r, h2 _ (by rcases s.2.2 with z | z <;> omega)]
      · rw [if_neg r, if_neg r]
    have e2 : mx_yc C' (X f) = mx_yc C (X f) := by
      unfold mx_yc
      by_cases r : 0 ≤ X f
      · rw [if_pos r, if_pos r, h2 _ (by rcases s.2.1 with z | z <;> omega)]
      · rw [if_neg r, if_neg r]
    have := z3 q1 q2
    unfold mx_fp at this ⊢
    rw [a1, a2, b1, b2, b3, b4, e1, e2]
    exact this
end
/-- all that THE IMAGE keeps, on both sides -/
def mx_K (tn m g : Int) (TF D K P X Y H T C M S F : Nat → Int) (tn' m' g' : Int) (t0 t1 t2 t3 dd k p ex ey hin into gone W Fr : Nat → Int) (fires : Int) : Prop :=
  (mx_W tn m g TF D K P X Y H T C ∧ m ≤ 64 ∧ mx_Mb m g H M) ∧ (mx_Re m g K P X Y H T k p ex ey hin gone ∧ mx_Ri g T into ∧ m' = m ∧ g' = g) ∧
  (tn' = tn ∧ (∀ t : Nat, (t : Int) < tn → t0 t = TF (4 * t) ∧ t1 t = TF (4 * t + 1) ∧ t2 t = TF (4 * t + 2) ∧ t3 t = TF (4 * t + 3)) ∧ ∀ c : Nat, c < 4 → dd c = D c) ∧
  (mx_Fg m K P X Y H C S W ∧ (∀ r : Nat, r < 7 → Fr r = F r) ∧ fires = am_w (F 0 + F 1 + F 2 + F 3 + F 4 + F 5 + F 6))
theorem mx_K_cong {tn m g : Int} {TF D K P X Y H T C M S F TF' D' K' P' X' Y' H' T' C' M' S' F' : Nat → Int} {tn' m' g' : Int} {t0 t1 t2 t3 dd k p ex ey hin into gone W Fr t0' t1' t2' t3' dd' k' p' ex' ey' hin' into' gone' W' Fr' : Nat → Int} {fires : Int}
    (h : mx_K tn m g TF D K P X Y H T C M S F tn' m' g' t0 t1 t2 t3 dd k p ex ey hin into gone W Fr fires)
    (a1 : ∀ i : Nat, i < 32 → TF' i = TF i) (a2 : ∀ i : Nat, i < 4 → D' i = D i) (a3 : ∀ i : Nat, i < 64 → K' i = K i) (a4 : ∀ i : Nat, i < 64 → P' i = P i) (a5 : ∀ i : Nat, i < 64 → X' i = X i) (a6 : ∀ i : Nat, i < 64 → Y' i = Y i) (a7 : ∀ i : Nat, i < 64 → H' i = H i) (a8 : ∀ i : Nat, i < 64 → T' i = T i) (a9 : ∀ i : Nat, i < 64 → C' i = C i) (a10 : ∀ i : Nat, i < 64 → M' i = M i) (a11 : ∀ i : Nat, i < 448 → S' i = S i) (a12 : ∀ i : Nat, i < 7 → F' i = F i)
    (b1 : ∀ i : Nat, i < 8 → t0' i = t0 i) (b2 : ∀ i : Nat, i < 8 → t1' i = t1 i) (b3 : ∀ i : Nat, i < 8 → t2' i = t2 i) (b4 : ∀ i : Nat, i < 8 → t3' i = t3 i) (b5 : ∀ i : Nat, i < 4 → dd' i = dd i) (b6 : ∀ i : Nat, i < 64 → k' i = k i) (b7 : ∀ i : Nat, i < 64 → p' i = p i) (b8 : ∀ i : Nat, i < 64 → ex' i = ex i) (b9 : ∀ i : Nat, i < 64 → ey' i = ey i) (b10 : ∀ i : Nat, i < 64 → hin' i = hin i) (b11 : ∀ i : Nat, i < 64 → into' i = into i) (b12 : ∀ i : Nat, (i : Int) < m → gone' i = gone i) (b13 : ∀ i : Nat, i < 29120 → W' i = W i) (b14 : ∀ i : Nat, i < 7 → Fr' i = Fr i) :
    mx_K tn m g TF' D' K' P' X' Y' H' T' C' M' S' F' tn' m' g' t0' t1' t2' t3' dd' k' p' ex' ey' hin' into' gone' W' Fr' fires := by
  obtain ⟨⟨w1, w2, w3⟩, ⟨r1, r2, r3, r4⟩, ⟨u1, u2, u3⟩, f1, f2, f3⟩ := h
  have bd := w1.2.1
  have bt := w1.1.1
  have hl : ∀ e : Nat, (e : Int) < m → K' e = K e ∧ P' e = P e ∧ X' e = X e ∧ Y' e = Y e ∧ H' e = H e := fun e he => ⟨a3 e (by omega), a4 e (by omega), a5 e (by omega), a6 e (by omega), a7 e (by omega)⟩
  refine ⟨⟨mx_W_cong w1 (fun i hi => a1 i (by omega)) a2 hl (fun i hi => ⟨a8 i (by omega), a9 i (by omega)⟩), w2, mx_Mb_cong w3 (fun e he => a7 e (by omega)) (fun i hi => a10 i (by omega))⟩, ⟨fun e he => ?_, fun i hi => ?_, r3, r4⟩, ⟨u1, fun t ht => ?_, fun c hc => by rw [b5 c hc, a2 c hc]; exact u3 c hc⟩,
    mx_Fg_cong w1.2.2.1 f1 hl (fun i hi => a9 i (by omega)) a11 b13, fun r hr => by rw [b14 r hr, a12 r hr]; exact f2 r hr, by rw [a12 0 (by decide), a12 1 (by decide), a12 2 (by decide), a12 3 (by decide), a12 4 (by decide), a12 5 (by decide), a12 6 (by decide)]; exact f3⟩
  · obtain ⟨q1, q2, q3, q4⟩ := r1 e he
    unfold mx_re
    rw [b6 e (by omega), b7 e (by omega), b8 e (by omega), b9 e (by omega), b10 e (by omega), b12 e he, a3 e (by omega), a4 e (by omega), a5 e (by omega), a6 e (by omega), a7 e (by omega)]
    refine ⟨q1, q2, q3, fun hH => ?_⟩
    obtain ⟨x1, x2, x3, x4, x5⟩ := q4 hH
    refine ⟨⟨x1.1, x1.2.1, by rw [a8 _ (by omega)]; exact x1.2.2⟩, fun hk => ?_, x3, fun hk => ?_, x5⟩
    · have := x2 hk
      exact ⟨this.1, this.2.1, by rw [a8 _ (by omega)]; exact this.2.2⟩
    · have := x4 hk
      exact ⟨this.1, this.2.1, by rw [a8 _ (by omega)]; exact this.2.2⟩
  · obtain ⟨q1, q2, q3, q4⟩ := r2 i hi
    rw [b11 i (by omega), a8 i (by omega), a8 _ (by omega)]
    exact ⟨q1, q2, q3, q4⟩
  · rw [b1 t (by omega), b2 t (by omega), b3 t (by omega), b4 t (by omega), a1 _ (by omega), a1 _ (by omega), a1 _ (by omega), a1 _ (by omega)]
    exact u2 t ht
abbrev mx_Kc (σ : am_M) : Prop := mx_K (σ 2 0) (σ 2 3) (σ 2 9) (σ 3) (σ 4) (σ 5) (σ 6) (σ 7) (σ 8) (σ 9) (σ 10) (σ 11) (σ 12) (σ 13) (σ 14) (σ 82 0) (σ 82 1) (σ 82 2) (σ 85) (σ 86) (σ 87) (σ 88) (σ 84) (σ 89) (σ 90) (σ 91) (σ 92) (σ 93) (σ 94) (σ 95) (σ 96) (σ 97) (σ 82 3)
abbrev mx_Ki (σ : am_M) : Prop := mx_K (σ 15 0) (σ 15 3) (σ 15 9) (σ 16) (σ 17) (σ 18) (σ 19) (σ 20) (σ 21) (σ 22) (σ 23) (σ 24) (σ 25) (σ 26) (σ 27) (σ 141 0) (σ 141 1) (σ 141 2) (fun t => σ 141 (20 + t)) (fun t => σ 141 (30 + t)) (fun t => σ 141 (40 + t)) (fun t => σ 141 (50 + t)) (fun c => σ 141 (6 + c))
  (fun e => σ 141 (60 + e)) (fun e => σ 141 (130 + e)) (fun e => σ 141 (200 + e)) (fun e => σ 141 (270 + e)) (fun e => σ 141 (340 + e)) (fun e => σ 141 (410 + e)) (σ 142) (σ 143) (fun r => σ 141 (10 + r)) (σ 141 3)
section
variable {t n : Nat} {σ : am_M}
theorem mx_I_K (hI : mx_Inv t n σ) : mx_Kc σ := ⟨(mx_I_1 hI).1, (mx_I_1 hI).2.1, (mx_I_1 hI).2.2, mx_I_2 hI⟩
theorem mx_K_I12 (h : mx_Kc σ) : mx_I1 σ ∧ mx_I2 σ := ⟨⟨h.1, h.2.1, h.2.2.1⟩, h.2.2.2⟩
theorem mx_I9_i (h : mx_Ki σ) (h1 : σ 0 11 = 1) (h2 : σ 82 71 = 1) (h3 : σ 82 72 = 141) (h4 : σ 82 73 = 142) (h5 : σ 82 74 = 143) (h6 : σ 141 4 = σ 15 15) (h7 : σ 141 5 = σ 15 16) : mx_I9 144 σ :=
  Or.inr ⟨h1, h2, rfl, h3, h4, h5, ⟨h.1.1, h.1.2⟩, h.2.1, h.2.2.1, h.2.2.2, h6, h7⟩
theorem mx_I9_o (h : mx_I9 n σ) (h1 : σ 0 11 ≠ 0) : n = 144 ∧ mx_Ki σ ∧ σ 0 11 = 1 ∧ σ 82 71 = 1 ∧ σ 82 72 = 141 ∧ σ 82 73 = 142 ∧ σ 82 74 = 143 ∧ σ 141 4 = σ 15 15 ∧ σ 141 5 = σ 15 16 := by
  rcases h with h | h
  · exact absurd h.1 h1
  · obtain ⟨a1, a2, a3, a4, a5, a6, a7, a8, a9, a10, a11, a12⟩ := h
    exact ⟨a3, ⟨⟨a7.1, a7.2⟩, a8, a9, a10⟩, a1, a2, a4, a5, a6, a11, a12⟩
/-- the class's IMAGE -/
theorem me_becomeLikeB_s (d : Nat) : ∃ τ : am_M, me_becomeLikeB (d + 1) σ n = some (0, τ, n) ∧ mx_Fr [15, 16, 17, 18, 19, 20, 21, 22, 23, 24, 25, 26, 27] σ τ ∧ τ 15 0 = σ 2 0 ∧ τ 15 3 = σ 2 3 ∧ τ 15 9 = σ 2 9 ∧ τ 15 15 = σ 2 15 ∧ τ 15 16 = σ 2 16 ∧
    (∀ j : Nat, j < 32 → τ 16 j = σ 3 j) ∧ (∀ j : Nat, j < 4 → τ 17 j = σ 4 j) ∧ (∀ j : Nat, j < 64 → τ 18 j = σ 5 j) ∧ (∀ j : Nat, j < 64 → τ 19 j = σ 6 j) ∧ (∀ j : Nat, j < 64 → τ 20 j = σ 7 j) ∧ (∀ j : Nat, j < 64 → τ 21 j = σ 8 j) ∧ (∀ j : Nat, j < 64 → τ 22 j = σ 9 j) ∧ (∀ j : Nat, j < 64 → τ 23 j = σ 10 j) ∧ (∀ j : Nat, j < 64 → τ 24 j = σ 11 j) ∧ (∀ j : Nat, j < 64 → τ 25 j = σ 12 j) ∧ (∀ j : Nat, j < 448 → τ 26 j = σ 13 j) ∧ ∀ j : Nat, j < 7 → τ 27 j = σ 14 j := by
  rw [me_becomeLikeB_e]
  have a1 : ∀ x, am_a 3 0 16 0 32 x = x := fun x => mx_a_t 32 32 (by decide) (by decide) rfl rfl (by decide) (by decide) (by decide) (by decide) (by decide)
  have a2 : ∀ x, am_a 4 0 17 0 4 x = x := fun x => mx_a_t 4 4 (by decide) (by decide) rfl rfl (by decide) (by decide) (by decide) (by decide) (by decide)
  have a3 : ∀ x, am_a 5 0 18 0 64 x = x := fun x => mx_a_t 64 64 (by decide) (by decide) rfl rfl (by decide) (by decide) (by decide) (by decide) (by decide)
  have a4 : ∀ x, am_a 6 0 19 0 64 x = x := fun x => mx_a_t 64 64 (by decide) (by decide) rfl rfl (by decide) (by decide) (by decide) (by decide) (by decide)
  have a5 : ∀ x, am_a 7 0 20 0 64 x = x := fun x => mx_a_t 64 64 (by decide) (by decide) rfl rfl (by decide) (by decide) (by decide) (by decide) (by decide)
  have a6 : ∀ x, am_a 8 0 21 0 64 x = x := fun x => mx_a_t 64 64 (by decide) (by decide) rfl rfl (by decide) (by decide) (by decide) (by decide) (by decide)
  have a7 : ∀ x, am_a 9 0 22 0 64 x = x := fun x => mx_a_t 64 64 (by decide) (by decide) rfl rfl (by decide) (by decide) (by decide) (by decide) (by decide)
  have a8 : ∀ x, am_a 10 0 23 0 64 x = x := fun x => mx_a_t 64 64 (by decide) (by decide) rfl rfl (by decide) (by decide) (by decide) (by decide) (by decide)
  have a9 : ∀ x, am_a 11 0 24 0 64 x = x := fun x => mx_a_t 64 64 (by decide) (by decide) rfl rfl (by decide) (by decide) (by decide) (by decide) (by decide)
  have a10 : ∀ x, am_a 12 0 25 0 64 x = x := fun x => mx_a_t 64 64 (by decide) (by decide) rfl rfl (by decide) (by decide) (by decide) (by decide) (by decide)
  have a11 : ∀ x, am_a 13 0 26 0 448 x = x := fun x => mx_a_t 448 448 (by decide) (by decide) rfl rfl (by decide) (by decide) (by decide) (by decide) (by decide)
  have a12 : ∀ x, am_a 14 0 27 0 7 x = x := fun x => mx_a_t 7 7 (by decide) (by decide) rfl rfl (by decide) (by decide) (by decide) (by decide) (by decide)
  simp only [mx_m, a1, a2, a3, a4, a5, a6, a7, a8, a9, a10, a11, a12]
  clear a1 a2 a3 a4 a5 a6 a7 a8 a9 a10 a11 a12
  refine ⟨_, rfl, ?_, ?_, ?_, ?_, ?_, ?_, ?_, ?_, ?_, ?_, ?_, ?_, ?_, ?_, ?_, ?_, ?_, ?_⟩
  · intro i hi; simp only [List.mem_cons, List.not_mem_nil, or_false, not_or] at hi; simp (disch := first | omega | decide) only [mx_wr_ne, mx_cp_ne]
  · simp (disch := first | omega | decide) only [mx_wr_ne, mx_cp_ne, mx_wr_off, mx_wr_at]
  · simp (disch := first | omega | decide) only [mx_wr_ne, mx_cp_ne, mx_wr_off, mx_wr_at]
  · simp (disch := first | omega | decide) only [mx_wr_ne, mx_cp_ne, mx_wr_off, mx_wr_at]
  · simp (disch := first | omega | decide) only [mx_wr_ne, mx_cp_ne, mx_wr_off, mx_wr_at]
  · simp (disch := first | omega | decide) only [mx_wr_ne, mx_cp_ne, mx_wr_off, mx_wr_at]
  · intro j hj; simp (disch := first | omega | decide) only [mx_wr_ne, mx_cp_ne, mx_cp_in, Nat.sub_zero, Nat.zero_add]
  · intro j hj; simp (disch := first | omega | decide) only [mx_wr_ne, mx_cp_ne, mx_cp_in, Nat.sub_zero, Nat.zero_add]
  · intro j hj; simp (disch := first | omega | decide) only [mx_wr_ne, mx_cp_ne, mx_cp_in, Nat.sub_zero, Nat.zero_add]
  · intro j hj; simp (disch := first | omega | decide) only [mx_wr_ne, mx_cp_ne, mx_cp_in, Nat.sub_zero, Nat.zero_add]
  · intro j hj; simp (disch := first | omega | decide) only [mx_wr_ne, mx_cp_ne, mx_cp_in, Nat.sub_zero, Nat.zero_add]
  · intro j hj; simp (disch := first | omega | decide) only [mx_wr_ne, mx_cp_ne, mx_cp_in, Nat.sub_zero, Nat.zero_add]
  · intro j hj; simp (disch := first | omega | decide) only [mx_wr_ne, mx_cp_ne, mx_cp_in, Nat.sub_zero, Nat.zero_add]
  · intro j hj; simp (disch := first | omega | decide) only [mx_wr_ne, mx_cp_ne, mx_cp_in, Nat.sub_zero, Nat.zero_add]
  · intro j hj; simp (disch := first | omega | decide) only [mx_wr_ne, mx_cp_ne, mx_cp_in, Nat.sub_zero, Nat.zero_add]
  · intro j hj; simp (disch := first | omega | decide) only [mx_wr_ne, mx_cp_ne, mx_cp_in, Nat.sub_zero, Nat.zero_add]
  · intro j hj; simp (disch := first | omega | decide) only [mx_wr_ne, mx_cp_ne, mx_cp_in, Nat.sub_zero, Nat.zero_add]
  · intro j hj; simp (disch := first | omega | decide) only [mx_wr_ne, mx_cp_ne, mx_cp_in, Nat.sub_zero, Nat.zero_add]
theorem me_becomeLikeA_s (d : Nat) : ∃ τ : am_M, me_becomeLikeA (d + 1) σ n = some (0, τ, n) ∧ mx_Fq [3, 4, 5, 6, 7, 8, 9, 10, 11, 12, 13, 14] [(2, 0), (2, 3), (2, 9), (2, 15), (2, 16), (2, 17)] σ τ ∧ τ 2 17 = am_w (σ 2 17 + 1) ∧ τ 2 0 = σ 15 0 ∧ τ 2 3 = σ 15 3 ∧ τ 2 9 = σ 15 9 ∧ τ 2 15 = σ 15 15 ∧ τ 2 16 = σ 15 16 ∧
    (∀ j : Nat, j < 32 → τ 3 j = σ 16 j) ∧ (∀ j : Nat, j < 4 → τ 4 j = σ 17 j) ∧ (∀ j : Nat, j < 64 → τ 5 j = σ 18 j) ∧ (∀ j : Nat, j < 64 → τ 6 j = σ 19 j) ∧ (∀ j : Nat, j < 64 → τ 7 j = σ 20 j) ∧ (∀ j : Nat, j < 64 → τ 8 j = σ 21 j) ∧ (∀ j : Nat, j < 64 → τ 9 j = σ 22 j) ∧ (∀ j : Nat, j < 64 → τ 10 j = σ 23 j) ∧ (∀ j : Nat, j < 64 → τ 11 j = σ 24 j) ∧ (∀ j : Nat, j < 64 → τ 12 j = σ 25 j) ∧ (∀ j : Nat, j < 448 → τ 13 j = σ 26 j) ∧ ∀ j : Nat, j < 7 → τ 14 j = σ 27 j := by
  rw [me_becomeLikeA_e]
  have a1 : ∀ x, am_a 16 0 3 0 32 x = x := fun x => mx_a_t 32 32 (by decide) (by decide) rfl rfl (by decide) (by decide) (by decide) (by decide) (by decide)
  have a2 : ∀ x, am_a 17 0 4 0 4 x = x := fun x => mx_a_t 4 4 (by decide) (by decide) rfl rfl (by decide) (by decide) (by decide) (by decide) (by decide)
  have a3 : ∀ x, am_a 18 0 5 0 64 x = x := fun x => mx_a_t 64 64 (by decide) (by decide) rfl rfl (by decide) (by decide) (by decide) (by decide) (by decide)
  have a4 : ∀ x, am_a 19 0 6 0 64 x = x := fun x => mx_a_t 64 64 (by decide) (by decide) rfl rfl (by decide) (by decide) (by decide) (by decide) (by decide)
  have a5 : ∀ x, am_a 20 0 7 0 64 x = x := fun x => mx_a_t 64 64 (by decide) (by decide) rfl rfl (by decide) (by decide) (by decide) (by decide) (by decide)
  have a6 : ∀ x, am_a 21 0 8 0 64 x = x := fun x => mx_a_t 64 64 (by decide) (by decide) rfl rfl (by decide) (by decide) (by decide) (by decide) (by decide)
  have a7 : ∀ x, am_a 22 0 9 0 64 x = x := fun x => mx_a_t 64 64 (by decide) (by decide) rfl rfl (by decide) (by decide) (by decide) (by decide) (by decide)
  have a8 : ∀ x, am_a 23 0 10 0 64 x = x := fun x => mx_a_t 64 64 (by decide) (by decide) rfl rfl (by decide) (by decide) (by decide) (by decide) (by decide)
  have a9 : ∀ x, am_a 24 0 11 0 64 x = x := fun x => mx_a_t 64 64 (by decide) (by decide) rfl rfl (by decide) (by decide) (by decide) (by decide) (by decide)
  have a10 : ∀ x, am_a 25 0 12 0 64 x = x := fun x => mx_a_t 64 64 (by decide) (by decide) rfl rfl (by decide) (by decide) (by decide) (by decide) (by decide)
  have a11 : ∀ x, am_a 26 0 13 0 448 x = x := fun x => mx_a_t 448 448 (by decide) (by decide) rfl rfl (by decide) (by decide) (by decide) (by decide) (by decide)
  have a12 : ∀ x, am_a 27 0 14 0 7 x = x := fun x => mx_a_t 7 7 (by decide) (by decide) rfl rfl (by decide) (by decide) (by decide) (by decide) (by decide)
  simp only [mx_m, a1, a2, a3, a4, a5, a6, a7, a8, a9, a10, a11, a12]
  clear a1 a2 a3 a4 a5 a6 a7 a8 a9 a10 a11 a12
  refine ⟨_, rfl, ?_, ?_, ?_, ?_, ?_, ?_, ?_, ?_, ?_, ?_, ?_, ?_, ?_, ?_, ?_, ?_, ?_, ?_, ?_⟩
  · intro i j hi hj
    simp only [List.mem_cons, List.not_mem_nil, or_false, not_or, Prod.mk.injEq] at hi hj
    simp (disch := first | omega | decide) only [mx_wr_no, mx_cp_ne]
  · simp (disch := first | omega | decide) only [mx_wr_ne, mx_cp_ne, mx_wr_off, mx_wr_at]
  · simp (disch := first | omega | decide) only [mx_wr_ne, mx_cp_ne, mx_wr_off, mx_wr_at]
  · simp (disch := first | omega | decide) only [mx_wr_ne, mx_cp_ne, mx_wr_off, mx_wr_at]
  · simp (disch := first | omega | decide) only [mx_wr_ne, mx_cp_ne, mx_wr_off, mx_wr_at]
  · simp (disch := first | omega | decide) only [mx_wr_ne, mx_cp_ne, mx_wr_off, mx_wr_at]
  · simp (disch := first | omega | decide) only [mx_wr_ne, mx_cp_ne, mx_wr_off, mx_wr_at]
  · intro j hj; simp (disch := first | omega | decide) only [mx_wr_ne, mx_cp_ne, mx_cp_in, Nat.sub_zero, Nat.zero_add]
  · intro j hj; simp (disch := first | omega | decide) only [mx_wr_ne, mx_cp_ne, mx_cp_in, Nat.sub_zero, Nat.zero_add]
  · intro j hj; simp (disch := first | omega | decide) only [mx_wr_ne, mx_cp_ne, mx_cp_in, Nat.sub_zero, Nat.zero_add]
  · intro j hj; simp (disch := first | omega | decide) only [mx_wr_ne, mx_cp_ne, mx_cp_in, Nat.sub_zero, Nat.zero_add]
  · intro j hj; simp (disch := first | omega | decide) only [mx_wr_ne, mx_cp_ne, mx_cp_in, Nat.sub_zero, Nat.zero_add]
  · intro j hj; simp (disch := first | omega | decide) only [mx_wr_ne, mx_cp_ne, mx_cp_in, Nat.sub_zero, Nat.zero_add]
  · intro j hj; simp (disch := first | omega | decide) only [mx_wr_ne, mx_cp_ne, mx_cp_in, Nat.sub_zero, Nat.zero_add]
  · intro j hj; simp (disch := first | omega | decide) only [mx_wr_ne, mx_cp_ne, mx_cp_in, Nat.sub_zero, Nat.zero_add]
  · intro j hj; simp (disch := first | omega | decide) only [mx_wr_ne, mx_cp_ne, mx_cp_in, Nat.sub_zero, Nat.zero_add]
  · intro j hj; simp (disch := first | omega | decide) only [mx_wr_ne, mx_cp_ne, mx_cp_in, Nat.sub_zero, Nat.zero_add]
  · intro j hj; simp (disch := first | omega | decide) only [mx_wr_ne, mx_cp_ne, mx_cp_in, Nat.sub_zero, Nat.zero_add]
  · intro j hj; simp (disch := first | omega | decide) only [mx_wr_ne, mx_cp_ne, mx_cp_in, Nat.sub_zero, Nat.zero_add]
theorem mx_new_ne {k i : Nat} (h : i ≠ k) : am_new σ k i = σ i := funext fun j => if_neg h
/-- the reference's IMAGE -/
theorem mo_image_35_s (d : Nat) (f2 : σ 82 72 = 141) (f3 : σ 82 73 = 142) (f4 : σ 82 74 = 143) : ∃ τ : am_M, mo_image_35 d σ n = some (σ 82 1, τ, n) ∧ mx_Fr [82, 141, 142, 143] σ τ ∧ (∀ j, j ≠ 71 → τ 82 j = σ 82 j) ∧ τ 82 71 = 1 ∧
    (τ 141 0 = σ 82 0 ∧ τ 141 1 = σ 82 1 ∧ τ 141 2 = σ 82 2 ∧ τ 141 3 = σ 82 3 ∧ τ 141 4 = σ 82 4 ∧ τ 141 5 = σ 82 5) ∧ (∀ j : Nat, j < 4 → τ 141 (6 + j) = σ 84 j) ∧ (∀ j : Nat, j < 7 → τ 141 (10 + j) = σ 97 j) ∧
    (∀ j : Nat, j < 8 → τ 141 (20 + j) = σ 85 j ∧ τ 141 (30 + j) = σ 86 j ∧ τ 141 (40 + j) = σ 87 j ∧ τ 141 (50 + j) = σ 88 j) ∧
    (∀ j : Nat, j < 64 → τ 141 (60 + j) = σ 89 j ∧ τ 141 (130 + j) = σ 90 j ∧ τ 141 (200 + j) = σ 91 j ∧ τ 141 (270 + j) = σ 92 j ∧ τ 141 (340 + j) = σ 93 j ∧ τ 141 (410 + j) = σ 94 j ∧ τ 142 j = σ 95 j % 2) ∧ ∀ j : Nat, j < 29120 → τ 143 j = σ 96 j % 2 := by
  obtain ⟨σ0, h0⟩ : ∃ σ0, σ0 = am_wr (am_wr (am_wr (am_wr (am_wr (am_wr (am_wr σ 82 71 1) 141 0 (σ 82 0)) 141 1 (σ 82 1)) 141 2 (σ 82 2)) 141 3 (σ 82 3)) 141 4 (σ 82 4)) 141 5 (σ 82 5) := ⟨_, rfl⟩
  obtain ⟨σ1, p1, p2, p3⟩ := mo_image_89_s d n 4 0 σ0 (by decide)
  obtain ⟨σ2, q1, q2, q3⟩ := mo_image_114_s d n 7 0 σ1 (by decide)
  obtain ⟨σ3, r1, r2, r3, r4, r5, r6⟩ := mo_image_140_s d n 8 0 σ2 (by decide)
  have e82 : ∀ j, σ3 82 j = if j = 71 then 1 else σ 82 j := fun j => by
    rw [r6 _ _ (by omega) (by omega) (by omega) (by omega), q3 _ _ (by omega), p3 _ _ (by omega), h0]
    simp (disch := first | omega | decide) only [mx_wr_ne, mx_wr_if]
  obtain ⟨σ4, s1, s2, s3, s4, s5, s6, s7, s8, s9⟩ := mo_image_202_s d n 64 0 σ3 (by decide) (by rw [e82, if_neg (by decide)]; exact f3)
  obtain ⟨σ5, t1, t2, t3⟩ := mo_image_305_s d n 29120 0 σ4 (by decide) (by rw [s9 _ _ (by omega) (by omega) (by omega) (by omega) (by omega) (by omega) (by omega), e82, if_neg (by decide)]; exact f4)
  have z3 : ∀ c j, c ≠ 82 → c ≠ 141 → c ≠ 142 → c ≠ 143 → σ3 c j = σ c j := fun c j a1 a2 a3 a4 => by
    rw [r6 _ _ (by omega) (by omega) (by omega) (by omega), q3 _ _ (by omega), p3 _ _ (by omega), h0]
    simp (disch := first | omega | decide) only [mx_wr_ne]
  have z5 : ∀ c j, c ≠ 141 → c ≠ 142 → c ≠ 143 → σ5 c j = σ3 c j := fun c j a2 a3 a4 => by
    rw [t3 _ _ (by omega), s9 _ _ (by omega) (by omega) (by omega) (by omega) (by omega) (by omega) (by omega)]
  have z0 : ∀ c j, c ≠ 82 → c ≠ 141 → σ0 c j = σ c j := fun c j a1 a2 => by
    rw [h0]
    simp (disch := first | omega | decide) only [mx_wr_ne]
  have low : ∀ j, j < 60 → σ5 141 j = σ3 141 j := fun j hj => by
    rw [t3 _ _ (by omega), s9 _ _ (by omega) (by omega) (by omega) (by omega) (by omega) (by omega) (by omega)]
  refine ⟨σ5, ?_, ?_, ?_, ?_, ⟨?_, ?_, ?_, ?_, ?_, ?_⟩, ?_, ?_, ?_, ?_, ?_⟩
  · rw [mo_image_35_e]
    simp (disch := first | omega | decide) only [mx_tn141, mx_m, ix_141, mx_wr_ne, mx_wr_off, f2]
    rw [h0] at p1
    have e : σ5 82 1 = σ 82 1 := by rw [z5 _ _ (by decide) (by decide) (by decide), e82, if_neg (by decide)]
    have p1' := p1.trans (q1.trans (r1.trans (s1.trans t1)))
    dsimp only at p1'
    rw [e] at p1'
    exact p1'
  · intro i hi
    simp only [List.mem_cons, List.not_mem_nil, or_false, not_or] at hi
    funext j
    rw [z5 _ _ (by omega) (by omega) (by omega), z3 _ _ (by omega) (by omega) (by omega) (by omega)]
  · intro j hj
    rw [z5 _ _ (by omega) (by omega) (by omega), e82, if_neg hj]
  · rw [z5 _ _ (by omega) (by omega) (by omega), e82, if_pos rfl]
  · rw [low _ (by decide), r6 _ _ (by omega) (by omega) (by omega) (by omega), q3 _ _ (by omega), p3 _ _ (by omega), h0]; simp (disch := first | omega | decide) only [mx_wr_ne, mx_wr_at, mx_wr_off]
  · rw [low _ (by decide), r6 _ _ (by omega) (by omega) (by omega) (by omega), q3 _ _ (by omega), p3 _ _ (by omega), h0]; simp (disch := first | omega | decide) only [mx_wr_ne, mx_wr_at, mx_wr_off]
  · rw [low _ (by decide), r6 _ _ (by omega) (by omega) (by omega) (by omega), q3 _ _ (by omega), p3 _ _ (by omega), h0]; simp (disch := first | omega | decide) only [mx_wr_ne, mx_wr_at, mx_wr_off]
  · rw [low _ (by decide), r6 _ _ (by omega) (by omega) (by omega) (by omega), q3 _ _ (by omega), p3 _ _ (by omega), h0]; simp (disch := first | omega | decide) only [mx_wr_ne, mx_wr_at, mx_wr_off]
  · rw [low _ (by decide), r6 _ _ (by omega) (by omega) (by omega) (by omega), q3 _ _ (by omega), p3 _ _ (by omega), h0]; simp (disch := first | omega | decide) only [mx_wr_ne, mx_wr_at, mx_wr_off]
  · rw [low _ (by decide), r6 _ _ (by omega) (by omega) (by omega) (by omega), q3 _ _ (by omega), p3 _ _ (by omega), h0]; simp (disch := first | omega | decide) only [mx_wr_ne, mx_wr_at, mx_wr_off]
  · intro j hj
    rw [low _ (by omega), r6 _ _ (by omega) (by omega) (by omega) (by omega), q3 _ _ (by omega), p2 j (by omega) hj, Nat.zero_add, z0 _ _ (by decide) (by decide)]
  · intro j hj
    rw [low _ (by omega), r6 _ _ (by omega) (by omega) (by omega) (by omega), q2 j (by omega) hj, Nat.zero_add, p3 _ _ (by omega), z0 _ _ (by decide) (by decide)]
  · intro j hj
    have y : ∀ c k, c ≠ 82 → c ≠ 141 → σ2 c k = σ c k := fun c k a1 a2 => by rw [q3 _ _ (by omega), p3 _ _ (by omega), z0 _ _ a1 a2]
    rw [low _ (by omega), low _ (by omega), low _ (by omega), low _ (by omega), r2 j (by omega) hj, r3 j (by omega) hj, r4 j (by omega) hj, r5 j (by omega) hj, Nat.zero_add, y _ _ (by decide) (by decide), y _ _ (by decide) (by decide), y _ _ (by decide) (by decide), y _ _ (by decide) (by decide)]
    exact ⟨rfl, rfl, rfl, rfl⟩
  · intro j hj
    have s8' := s8 j (by omega) hj
    rw [Nat.zero_add] at s8'
    rw [t3 _ _ (by omega), t3 _ _ (by omega), t3 _ _ (by omega), t3 _ _ (by omega), t3 _ _ (by omega), t3 _ _ (by omega), t3 _ _ (by omega), s2 j (by omega) hj, s3 j (by omega) hj, s4 j (by omega) hj, s5 j (by omega) hj, s6 j (by omega) hj, s7 j (by omega) hj, s8', Nat.zero_add,
      z3 _ _ (by decide) (by decide) (by decide) (by decide), z3 _ _ (by decide) (by decide) (by decide) (by decide), z3 _ _ (by decide) (by decide) (by decide) (by decide), z3 _ _ (by decide) (by decide) (by decide) (by decide), z3 _ _ (by decide) (by decide) (by decide) (by decide), z3 _ _ (by decide) (by decide) (by decide) (by decide), z3 _ _ (by decide) (by decide) (by decide) (by decide)]
    exact ⟨rfl, rfl, rfl, rfl, rfl, rfl, rfl⟩
  · intro j hj
    have t2' := t2 j (by omega) hj
    rw [Nat.zero_add] at t2'
    rw [t2', s9 _ _ (by omega) (by omega) (by omega) (by omega) (by omega) (by omega) (by omega), z3 _ _ (by decide) (by decide) (by decide) (by decide)]
end
