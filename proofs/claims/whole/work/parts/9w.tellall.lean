/-! READ: the class tells all -/
section
variable {n : Nat} {σ μ : am_M}
theorem mx_lm_cg {V : am_M} (h : ∀ c, 2 ≤ c → c ≤ 12 → σ c = V c) {k o x y : Int} (hl : mx_lm V k o x y) : mx_lm σ k o x y := by
  show mx_lg (σ 2 0) (σ 2 9) (σ 3) (σ 10) (σ 11) k o x y
  rw [h 2 (by decide) (by decide), h 3 (by decide) (by decide), h 10 (by decide) (by decide), h 11 (by decide) (by decide)]
  exact hl
theorem mx_fm_cg {V : am_M} (h : ∀ c, 2 ≤ c → c ≤ 12 → σ c = V c) {k o x y : Int} : mx_fm σ k o x y = mx_fm V k o x y := by
  show mx_fi (mx_al (σ 5) (σ 6) (σ 7) (σ 8) (σ 9) k o x y) (σ 2 3).toNat 0 = _
  rw [h 2 (by decide) (by decide), h 5 (by decide) (by decide), h 6 (by decide) (by decide), h 7 (by decide) (by decide), h 8 (by decide) (by decide), h 9 (by decide) (by decide)]
theorem mx_tln_cg {V : am_M} (h : ∀ c, 2 ≤ c → c ≤ 12 → σ c = V c) {k o x y : Int} (hl : mx_lm V k o x y) : ∀ c, 2 ≤ c → c ≤ 12 → mx_tln σ k o x y c = mx_tln V k o x y c := by
  obtain ⟨a5, a6, a7, a8, a9, a10, a11, a12, a3, a99, a17, aF⟩ := mx_tln_c (mx_lm_cg h hl)
  obtain ⟨b5, b6, b7, b8, b9, b10, b11, b12, b3, b99, b17, bF⟩ := mx_tln_c hl
  have h2 := h 2 (by decide) (by decide)
  intro c c1 c2
  have cs : c = 2 ∨ c = 3 ∨ c = 4 ∨ c = 5 ∨ c = 6 ∨ c = 7 ∨ c = 8 ∨ c = 9 ∨ c = 10 ∨ c = 11 ∨ c = 12 := by omega
  rcases cs with q | q | q | q | q | q | q | q | q | q | q <;> subst q
  · funext j
    by_cases j3 : j = 3
    · rw [j3, a3, b3, h2]
    · by_cases j9 : j = 9
      · rw [j9, a99, b99, h2]
      · by_cases j17 : j = 17
        · rw [j17, a17, b17, h2]
        · rw [aF 2 j (by decide) (by simp only [List.mem_cons, List.not_mem_nil, or_false, Prod.mk.injEq]; omega), bF 2 j (by decide) (by simp only [List.mem_cons, List.not_mem_nil, or_false, Prod.mk.injEq]; omega), h2]
  · funext j
    rw [aF 3 j (by decide) (by simp), bF 3 j (by decide) (by simp), h 3 (by decide) (by decide)]
  · funext j
    rw [aF 4 j (by decide) (by simp), bF 4 j (by decide) (by simp), h 4 (by decide) (by decide)]
  · rw [a5, b5, h2, h 5 (by decide) (by decide)]
  · rw [a6, b6, h2, h 6 (by decide) (by decide)]
  · rw [a7, b7, h2, h 7 (by decide) (by decide)]
  · rw [a8, b8, h2, h 8 (by decide) (by decide)]
  · rw [a9, b9, h2, h 9 (by decide) (by decide)]
  · rw [a10, b10, h2, h 10 (by decide) (by decide)]
  · rw [a11, b11, h2, h 3 (by decide) (by decide), h 11 (by decide) (by decide)]
  · rw [a12, b12, h2, h 12 (by decide) (by decide)]
/-- a prefix stands too -/
theorem mx_vj_pre (hg : mx_gd μ) {L : List mx_pt} (h : mx_okl μ L) (hl : L.length ≤ 70) (hv : 0 ≤ μ 2 17 ∧ μ 2 17 < 1900000000) : ∀ (A R : List mx_pt), L = A ++ R → mx_vj μ A (mx_tal μ A) := by
  have h64 := hg.2.1
  have key : ∀ (k : Nat) (A R : List mx_pt), A.length = k → L = A ++ R → mx_vj μ A (mx_tal μ A) := by
    intro k
    induction k with
    | zero =>
      intro A R hk e
      have : A = [] := List.eq_nil_of_length_eq_zero hk
      subst this
      exact mx_vj_nil hg
    | succ k ih =>
      intro A R hk e
      rcases List.eq_nil_or_concat A with z | ⟨A', q, z⟩
      · subst z; cases hk
      · rw [List.concat_eq_append] at z
        subst z
        rw [List.length_append, List.length_singleton] at hk
        have e' : L = A' ++ q :: R := by rw [e]; simp only [List.append_assoc, List.cons_append, List.nil_append]
        have ll : L.length = A'.length + (R.length + 1) := by rw [e', List.length_append, List.length_cons]
        have j := ih A' (q :: R) (by omega) e'
        obtain ⟨o1, o2, o3, o4⟩ := h A' q R e'
        rw [mx_tal_app]
        exact mx_vj_step j o1 o2 (by have := j.2.1.2; omega) ⟨hv.1, by omega⟩ rfl o3 o4
  intro A R e
  exact key A.length A R rfl e
theorem mx_tal_mono (hg : mx_gd μ) {L : List mx_pt} (h : mx_okl μ L) (hl : L.length ≤ 70) (hv : 0 ≤ μ 2 17 ∧ μ 2 17 < 1900000000) : ∀ (R A : List mx_pt), L = A ++ R → (mx_tal μ A).1 2 3 ≤ (mx_tal μ L).1 2 3 := by
  intro R
  induction R with
  | nil => intro A e; rw [e, List.append_nil]; exact Int.le_refl _
  | cons q R ih =>
    intro A e
    have e' : L = (A ++ [q]) ++ R := by rw [e]; simp only [List.append_assoc, List.cons_append, List.nil_append]
    refine Int.le_trans ?_ (ih (A ++ [q]) e')
    obtain ⟨o1, -⟩ := h A q R e
    rw [mx_tal_app]
    unfold mx_tv mx_twv
    dsimp only
    split
    · dsimp only
      rw [(mx_tln_c o1).2.2.2.2.2.2.2.2.1]; omega
    · exact Int.le_refl _
abbrev mx_C2 : List Nat := [2, 3, 4, 5, 6, 7, 8, 9, 10, 11, 12, 49]
theorem re_groupOfPart_s (d : Nat) {A : List mx_pt} {V : am_M × List Int} (hV : V.2.length = A.length) (h49 : ∀ (i : Nat) (g : Int), V.2[i]? = some g → σ 49 i = g) (hA : A.length ≤ 32) {z : Int} (hz : z = -1 ∨ ∃ i : Nat, z = i ∧ i < A.length) : re_groupOfPart (d + 1) z σ n = some (mx_gp V.2 z, σ, n) := by
  rw [re_groupOfPart_e]
  unfold mx_gp
  rcases hz with q | ⟨i, q, hi⟩
  · rw [if_pos q, if_pos q]
  · have hx : V.2[i]? = some (V.2[i]'(by omega)) := List.getElem?_eq_getElem (by omega)
    have := h49 i _ hx
    rw [if_neg (by omega), if_neg (by omega), q, ix_49 (by omega) (by omega), Int.toNat_natCast, List.getD_eq_getElem?_getD, hx, this]
    rfl
abbrev mx_tra (μ : am_M) (L : List mx_pt) (m0 g0 : Int) (σ : am_M) (n : Nat) (X : Option am_R) : Prop := ∃ σ' : am_M, mx_Fq mx_C2 [] σ σ' ∧ ((∃ v : Int, X = some (v, σ', n) ∧ (mx_tal μ L).2[L.length - 1]? = some v ∧ (mx_tal μ L).1 2 3 ≤ 64 ∧ ∀ c, 2 ≤ c → c ≤ 12 → σ' c = (mx_tal μ L).1 c) ∨
      (∃ B R' : List mx_pt, X = some (-1, σ', n) ∧ 64 < (mx_tal μ L).1 2 3 ∧ L = B ++ R' ∧ σ' 2 3 = m0 ∧ σ' 2 9 = g0 ∧ σ' 2 17 = am_w ((mx_tal μ B).1 2 17 + 1) ∧ (∀ j, j ≠ 3 → j ≠ 9 → j ≠ 17 → σ' 2 j = (mx_tal μ B).1 2 j) ∧ ∀ c, 3 ≤ c → c ≤ 12 → σ' c = (mx_tal μ B).1 c))
theorem re_tellAll_21_s (hg : mx_gd μ) {L : List mx_pt} (hok : mx_okl μ L) (hL : L.length ≤ 27) (hv : 0 ≤ μ 2 17 ∧ μ 2 17 < 1900000000) (dp : Nat) (m0 g0 : Int) : ∀ (R A : List mx_pt) (v3 : Int) (σ : am_M), L = A ++ R → (mx_tal μ A).1 2 3 ≤ 64 → (∀ c, 2 ≤ c → c ≤ 12 → σ c = (mx_tal μ A).1 c) → σ 43 3 = L.length → (∀ (i : Nat) (q : mx_pt), L[i]? = some q → σ 44 i = q.1 ∧ σ 45 i = q.2.1 ∧ σ 46 i = q.2.2.1 ∧ σ 47 i = q.2.2.2.1) → (∀ (i : Nat) (g : Int), (mx_tal μ A).2[i]? = some g → σ 49 i = g) → (R = [] → (mx_tal μ L).2[L.length - 1]? = some v3) →
    mx_tra μ L m0 g0 σ n (re_tellAll_21 (dp + 4) m0 g0 v3 (A.length : Nat) σ n) := by
  intro R
  induction R with
  | nil =>
    intro A v3 σ e h64 hc h43 hp h49 hv3
    rw [List.append_nil] at e
    refine ⟨σ, mx_fq_rf, Or.inl ⟨v3, ?_, hv3 rfl, by rw [e]; exact h64, by rw [e]; exact hc⟩⟩
    rw [re_tellAll_21_e, if_neg (by rw [h43, e]; omega)]
  | cons q R ih =>
    intro A v3 σ e h64 hc h43 hp h49 hv3
    have ll : L.length = A.length + (R.length + 1) := by rw [e, List.length_append, List.length_cons]
    have vj := mx_vj_pre hg hok (by omega) hv A (q :: R) e
    obtain ⟨o1, o2, o3, o4⟩ := hok A q R e
    have e' : L = (A ++ [q]) ++ R := by rw [e]; simp only [List.append_assoc, List.cons_append, List.nil_append]
    have hq : L[A.length]? = some q := by rw [e, List.getElem?_append_right (Nat.le_refl _), Nat.sub_self]; rfl
    obtain ⟨p1, p2, p3, p4⟩ := hp A.length q hq
    have gdV := vj.2.2.2.2.2.2.2.2.2.2.2.1 h64
    have lgA := vj.2.2.2.1
    have gd : mx_gd σ := mx_gd_fr gdV (fun i j a b _ => by rw [hc i a b])
    have lm : mx_lm σ q.1 q.2.1 (mx_gp (mx_tal μ A).2 q.2.2.1) (mx_gp (mx_tal μ A).2 q.2.2.2.1) := mx_lm_cg hc o1
    have fm := mx_fm_cg hc (k := q.1) (o := q.2.1) (x := mx_gp (mx_tal μ A).2 q.2.2.1) (y := mx_gp (mx_tal μ A).2 q.2.2.2.1)
    have I : (0 : Int) ≤ (A.length : Int) ∧ (A.length : Int) < 32 := ⟨by omega, by omega⟩
    have a1k : (A.length : Int) < 1000 := by omega
    have go : re_tellAll_21 (dp + 4) m0 g0 v3 (A.length : Nat) σ n = (me_tell (dp + 4) q.1 q.2.1 (mx_gp (mx_tal μ A).2 q.2.2.1) (mx_gp (mx_tal μ A).2 q.2.2.2.1) σ n).bind fun q3 => if q3.1 = (-1) then ((me_takeBack (dp + 4) m0 g0 q3.2.1 q3.2.2).bind fun q4 => some ((-1), q4.2.1, q4.2.2)) else am_ix 49 (A.length : Nat) (am_m (am_wr q3.2.1 49 A.length q3.1) fun σ1 => re_tellAll_21 (dp + 4) m0 g0 q3.1 ((A.length + 1 : Nat) : Int) σ1 q3.2.2) := by
      rw [re_tellAll_21_e, if_pos (by rw [h43]; omega), ix_44 I.1 I.2, ix_45 I.1 I.2, ix_46 I.1 I.2, Int.toNat_natCast, p1, p2, p3, re_groupOfPart_s (n := n) (dp + 3) lgA h49 (by omega) o3, Option.bind_some]
      dsimp only
      rw [ix_47 I.1 I.2, p4, re_groupOfPart_s (n := n) (dp + 3) lgA h49 (by omega) o4, Option.bind_some]
      dsimp only
      rw [mx_w_nat a1k]
    have w2 := gd.1.2.1
    -- going on
    have next : ∀ (g : Int) (σ2 : am_M), me_tell (dp + 4) q.1 q.2.1 (mx_gp (mx_tal μ A).2 q.2.2.1) (mx_gp (mx_tal μ A).2 q.2.2.2.1) σ n = some (g, σ2, n) → 0 ≤ g → mx_Fq mx_C2 [] σ σ2 → (∀ c, 2 ≤ c → c ≤ 12 → σ2 c = (mx_tal μ (A ++ [q])).1 c) → σ2 49 = σ 49 → (mx_tal μ (A ++ [q])).2 = (mx_tal μ A).2 ++ [g] → (mx_tal μ (A ++ [q])).1 2 3 ≤ 64 → mx_tra μ L m0 g0 σ n (re_tellAll_21 (dp + 4) m0 g0 v3 (A.length : Nat) σ n) := fun g σ2 ht g0' F2 hc2 h492 hG h642 => by
      have n1 : ¬ g = -1 := by omega
      have F3 : mx_Fq mx_C2 [] σ (am_wr σ2 49 A.length g) := mx_fq_wr F2 rfl
      have k2 : ∀ c, c ≠ 49 → am_wr σ2 49 A.length g c = σ2 c := fun c q => mx_wr_ne q
      have I3 := ih (A ++ [q]) g (am_wr σ2 49 A.length g) e' h642 (fun c c1 c2 => by rw [k2 c (by omega)]; exact hc2 c c1 c2) (by rw [F3 43 3 (by decide) (by simp)]; exact h43) (fun i q hq => by rw [F3 44 i (by decide) (by simp), F3 45 i (by decide) (by simp), F3 46 i (by decide) (by simp), F3 47 i (by decide) (by simp)]; exact hp i q hq) (fun i g' hg' => by
        rw [hG] at hg'
        by_cases z : i < A.length
        · rw [List.getElem?_append_left (by omega)] at hg'
          rw [mx_wr_off (by omega), h492]; exact h49 i g' hg'
        · have hl' := (List.getElem?_eq_some_iff.mp hg').1
          rw [List.length_append, List.length_singleton] at hl'
          have : i = A.length := by omega
          rw [List.getElem?_append_right (by omega), this, lgA, Nat.sub_self] at hg'
          cases hg'
          rw [this, mx_wr_at]) (fun z => by
        subst z
        rw [List.append_nil] at e'
        rw [e', hG, List.length_append, List.length_singleton, Nat.add_sub_cancel, List.getElem?_append_right (by omega), lgA, Nat.sub_self]; rfl)
      have st : re_tellAll_21 (dp + 4) m0 g0 v3 (A.length : Nat) σ n = re_tellAll_21 (dp + 4) m0 g0 g (((A ++ [q]).length : Nat) : Int) (am_wr σ2 49 A.length g) n := by
        rw [go, ht, Option.bind_some]
        dsimp only
        rw [if_neg n1, ix_49 I.1 I.2, mx_m, List.length_append, List.length_singleton]
      obtain ⟨σ', x1, x2⟩ := I3
      rw [st]
      exact ⟨σ', mx_fq_tr F3 x1, x2⟩
    rcases me_tell_s (n := n) gd lm (dp + 1) with ⟨i, i1, i2, i3, i4, i5, i6⟩ | ⟨f, ⟨f2, f3⟩ | ⟨f2, f3⟩⟩
    · have ev : mx_tal μ (A ++ [q]) = ((mx_tal μ A).1, (mx_tal μ A).2 ++ [(mx_tal μ A).1 9 i]) := by
        rw [mx_tal_app]
        unfold mx_tv mx_twv
        rw [if_neg (by rw [← fm]; omega), ← fm, i2, Int.toNat_natCast]
      refine next (σ 9 i) σ i3 i4 mx_fq_rf (by rw [ev]; exact hc) rfl ?_ (by rw [ev]; exact h64)
      rw [ev, hc 9 (by decide) (by decide)]
    · have ev : mx_tal μ (A ++ [q]) = (mx_tln (mx_tal μ A).1 q.1 q.2.1 (mx_gp (mx_tal μ A).2 q.2.2.1) (mx_gp (mx_tal μ A).2 q.2.2.2.1), (mx_tal μ A).2 ++ [(mx_tal μ A).1 2 9]) := by
        rw [mx_tal_app]
        unfold mx_tv mx_twv
        rw [if_pos (by rw [← fm]; exact f)]
      have tc := mx_tln_c lm
      have tF := tc.2.2.2.2.2.2.2.2.2.2.2
      refine next (σ 2 9) _ f3 w2.1 (mx_fq_up tF rfl) (by rw [ev]; exact mx_tln_cg hc o1) (funext fun j => tF 49 j (by decide) (by simp)) ?_ ?_
      · rw [ev, hc 2 (by decide) (by decide)]
      · rw [ev]
        dsimp only
        rw [(mx_tln_c o1).2.2.2.2.2.2.2.2.1, ← hc 2 (by decide) (by decide)]; omega
    · have ev : mx_tal μ (A ++ [q]) = (mx_tln (mx_tal μ A).1 q.1 q.2.1 (mx_gp (mx_tal μ A).2 q.2.2.1) (mx_gp (mx_tal μ A).2 q.2.2.2.1), (mx_tal μ A).2 ++ [(mx_tal μ A).1 2 9]) := by
        rw [mx_tal_app]
        unfold mx_tv mx_twv
        rw [if_pos (by rw [← fm]; exact f)]
      have mono := mx_tal_mono hg hok (by omega) hv R (A ++ [q]) e'
      have v3' : (mx_tal μ (A ++ [q])).1 2 3 = 65 := by
        rw [ev]
        dsimp only
        rw [(mx_tln_c o1).2.2.2.2.2.2.2.2.1, ← hc 2 (by decide) (by decide), f2]; rfl
      obtain ⟨σ2, hσ2⟩ : ∃ σ2, σ2 = am_wr (am_wr (am_wr σ 2 3 m0) 2 9 g0) 2 17 (am_w (σ 2 17 + 1)) := ⟨_, rfl⟩
      refine ⟨σ2, by rw [hσ2]; exact mx_fq_wr (mx_fq_wr (mx_fq_wr mx_fq_rf rfl) rfl) rfl, Or.inr ⟨A, q :: R, ?_, by omega, e, ?_, ?_, ?_, fun j j1 j2 j3 => ?_, fun c c1 c2 => ?_⟩⟩
      · rw [go, f3, Option.bind_some]
        dsimp only
        rw [if_pos rfl, me_takeBack_e, mx_m, mx_m, mx_m, Option.bind_some, mx_wr_off (by decide), mx_wr_off (by decide), ← hσ2]
      · rw [hσ2, mx_wr_off (by decide), mx_wr_off (by decide), mx_wr_at]
      · rw [hσ2, mx_wr_off (by decide), mx_wr_at]
      · rw [hσ2, mx_wr_at, hc 2 (by decide) (by decide)]
      · rw [hσ2, mx_wr_off j3, mx_wr_off j2, mx_wr_off j1, hc 2 (by decide) (by decide)]
      · rw [hσ2, mx_wr_ne (by omega), mx_wr_ne (by omega), mx_wr_ne (by omega), hc c (by omega) c2]
end
