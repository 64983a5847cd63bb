section
variable {n : Nat} {μ σ : am_M}
/-- how many are known -/
def mx_kc (f : Nat → Int) : Nat → Nat
  | 0 => 0
  | k + 1 => mx_kc f k + if f k = -1 then 0 else 1
theorem mx_kc_le (f : Nat → Int) : ∀ k, mx_kc f k ≤ k := by
  intro k
  induction k with
  | zero => exact Nat.le_refl _
  | succ k ih =>
    show mx_kc f k + (if f k = -1 then 0 else 1) ≤ k + 1
    split <;> omega
theorem mx_kc_lt (f : Nat → Int) (x : Nat) (hx : f x = -1) : ∀ k, x < k → mx_kc f k < k := by
  intro k
  induction k with
  | zero => intro h; omega
  | succ k ih =>
    intro h
    show mx_kc f k + (if f k = -1 then 0 else 1) < k + 1
    have le := mx_kc_le f k
    by_cases z : x = k
    · subst z; rw [if_pos hx]; omega
    · have := ih (by omega)
      split <;> omega
theorem mx_kc_up {f f' : Nat → Int} (x : Nat) (hx : f x = -1) (h1 : f' x ≠ -1) (h2 : ∀ j, j ≠ x → f' j = f j) : ∀ k, mx_kc f' k = mx_kc f k + if x < k then 1 else 0 := by
  intro k
  induction k with
  | zero => rfl
  | succ k ih =>
    show mx_kc f' k + (if f' k = -1 then 0 else 1) = mx_kc f k + (if f k = -1 then 0 else 1) + _
    rw [ih]
    by_cases z : x = k
    · subst z
      rw [if_neg h1, if_pos hx, if_neg (Nat.lt_irrefl _), if_pos (Nat.lt_succ_self _)]
    · rw [h2 k (fun q => z q.symm)]
      by_cases y : x < k
      · rw [if_pos y, if_pos (show x < k + 1 by omega)]; omega
      · rw [if_neg y, if_neg (show ¬ x < k + 1 by omega)]; omega
/-- demands are being listed: N of them; the ways of the first i are told -/
def mx_LU (μ σ : am_M) (N i : Nat) : Prop := mx_Fq [34, 35] mx_P38 μ σ ∧ σ 33 5 = N ∧ N ≤ mx_kc (σ 34) 1920 ∧
  (∀ k, k < N → ∃ x : Nat, σ 35 k = x ∧ mx_dd μ x ∧ σ 34 x = 1000000000001 ∧ μ 34 x = -1) ∧
  (∀ x : Nat, x < 1920 → σ 34 x = μ 34 x ∨ ∃ k, k < N ∧ σ 35 k = x) ∧ (∀ k l, k < l → l < N → σ 35 k ≠ σ 35 l) ∧
  ∀ k, k < i → ∀ x : Nat, σ 35 k = x → ∀ w ∈ mx_wl μ (μ 37 5) x, mx_kn σ w.2.2.1 ∧ mx_kn σ w.2.2.2.1
/-- a later one -/
def mx_LS (σ σ' : am_M) (N N' : Nat) : Prop := N ≤ N' ∧ (∀ u, mx_kn σ u → mx_kn σ' u) ∧ ∀ k, k < N → σ' 35 k = σ 35 k
theorem mx_LS_tr {σ1 σ2 σ3 : am_M} {N1 N2 N3 : Nat} (h : mx_LS σ1 σ2 N1 N2) (h' : mx_LS σ2 σ3 N2 N3) : mx_LS σ1 σ3 N1 N3 :=
  ⟨Nat.le_trans h.1 h'.1, fun u q => h'.2.1 u (h.2.1 u q), fun k q => (h'.2.2 k (Nat.lt_of_lt_of_le q h.1)).trans (h.2.2 k q)⟩
theorem mx_LS_rf {σ : am_M} {N : Nat} : mx_LS σ σ N N := ⟨Nat.le_refl _, fun _ h => h, fun _ _ => rfl⟩
theorem co_listIfUnknown_s (hg : mx_gd μ) (d : Nat) {v : Int} (hv : mx_vk μ v) {N i : Nat} (hi : i ≤ N) (h : mx_LU μ σ N i) :
    ∃ (σ' : am_M) (N' : Nat), co_listIfUnknown (d + 1) v σ n = some (0, σ', n) ∧ mx_Fq [34, 35] [(33, 5)] σ σ' ∧ mx_LU μ σ' N' i ∧ mx_kn σ' v ∧ mx_LS σ σ' N N' := by
  have h0 := h
  obtain ⟨h1, h2, h3, h4, h5, h6, h7⟩ := h
  rw [co_listIfUnknown_e]
  rcases hv with q | ⟨j, q1, q2, q3⟩
  · exact ⟨σ, N, by rw [if_pos q], mx_fq_rf, h0, Or.inl q, mx_LS_rf⟩
  · have nv : ¬ v = -1 := by omega
    have J : (0 : Int) ≤ (j : Int) ∧ (j : Int) < 1920 := ⟨by omega, by omega⟩
    rw [if_neg nv, q1, ix_34 J.1 J.2, ix_34 J.1 J.2, Int.toNat_natCast]
    by_cases z : σ 34 j = -1
    · have lt := mx_kc_lt (σ 34) j z 1920 q2
      have N1 : N < 1920 := by omega
      have Nn : (0 : Int) ≤ (N : Int) ∧ (N : Int) < 1920 := ⟨by omega, by omega⟩
      have wN : am_w ((N : Int) + 1) = ((N + 1 : Nat) : Int) := by rw [mx_w_id (by omega) (by omega)]; rfl
      rw [if_pos (mx_cmpE.mpr z), h2, if_pos Nn.2, mx_m]
      obtain ⟨σ1, e1⟩ : ∃ σ1, σ1 = am_wr (am_wr σ 34 j 1000000000001) 35 N j := ⟨_, rfl⟩
      have c33 : (am_wr σ 34 j 1000000000001) 33 5 = N := by rw [mx_wr_ne (by decide)]; exact h2
      have d33 : σ1 33 5 = N := by rw [e1, mx_wr_ne (by decide)]; exact c33
      rw [c33, ix_35 Nn.1 Nn.2, mx_m, Int.toNat_natCast, ← e1, mx_m, d33, wN]
      obtain ⟨σ', e2⟩ : ∃ σ', σ' = am_wr σ1 33 5 ((N + 1 : Nat) : Int) := ⟨_, rfl⟩
      rw [← e2]
      clear wN
      have F : mx_Fq [34, 35] [(33, 5)] σ σ' := by rw [e2, e1]; exact mx_fq_wr (mx_fq_wr (mx_fq_wr mx_fq_rf rfl) rfl) rfl
      have f34 : ∀ x, σ' 34 x = if x = j then 1000000000001 else σ 34 x := fun x => by
        rw [e2, mx_wr_ne (by decide), e1, mx_wr_ne (by decide)]
        by_cases y : x = j
        · rw [if_pos y, y, mx_wr_at]
        · rw [if_neg y, mx_wr_off y]
      have f35 : ∀ k, σ' 35 k = if k = N then (j : Int) else σ 35 k := fun k => by
        rw [e2, mx_wr_ne (by decide), e1]
        by_cases y : k = N
        · rw [if_pos y, y, mx_wr_at]
        · rw [if_neg y, mx_wr_off y, mx_wr_ne (by decide)]
      have k35 : ∀ k, k < N → σ' 35 k = σ 35 k := fun k q => by rw [f35, if_neg (by omega)]
      have kn : ∀ u, mx_kn σ u → mx_kn σ' u := fun u q => by
        unfold mx_kn at q ⊢
        rcases q with q | q
        · exact Or.inl q
        · right
          rw [f34]
          split
          · decide
          · exact q
      have m34 : μ 34 j = -1 := by
        rcases h5 j q2 with y | ⟨k, y1, y2⟩
        · rw [← y]; exact z
        · obtain ⟨x, x1, x2, x3, x4⟩ := h4 k y1
          have : x = j := by omega
          rw [this] at x4
          exact x4
      refine ⟨σ', N + 1, rfl, F, ⟨mx_fq_tr h1 (mx_fq_up F rfl), by rw [e2, mx_wr_at], ?_, ?_, ?_, ?_, ?_⟩, ?_, Nat.le_succ _, kn, k35⟩
      · have u := mx_kc_up (f := σ 34) (f' := σ' 34) j z (by rw [f34, if_pos rfl]; decide) (fun y q => by rw [f34, if_neg q]) 1920
        rw [if_pos q2] at u
        omega
      · intro k hk
        by_cases y : k = N
        · exact ⟨j, by rw [f35, if_pos y], q3, by rw [f34, if_pos rfl], m34⟩
        · obtain ⟨x, x1, x2, x3, x4⟩ := h4 k (by omega)
          refine ⟨x, by rw [k35 k (by omega)]; exact x1, x2, ?_, x4⟩
          rw [f34]
          split
          · rfl
          · exact x3
      · intro x hx
        by_cases y : x = j
        · exact Or.inr ⟨N, Nat.lt_succ_self _, by rw [f35, if_pos rfl, y]⟩
        · rcases h5 x hx with p | ⟨k, p1, p2⟩
          · left; rw [f34, if_neg y]; exact p
          · exact Or.inr ⟨k, by omega, by rw [k35 k p1]; exact p2⟩
      · intro k l hkl hl
        by_cases y : l = N
        · rw [f35 l, if_pos y, k35 k (by omega)]
          obtain ⟨x, x1, x2, x3, x4⟩ := h4 k (by omega)
          intro e
          rw [x1] at e
          have : x = j := by omega
          rw [this, z] at x3
          exact absurd x3 (by decide)
        · rw [k35 k (by omega), k35 l (by omega)]
          exact h6 k l hkl (by omega)
      · intro k hk x hx w hw
        rw [k35 k (by omega)] at hx
        have := h7 k hk x hx w hw
        exact ⟨kn _ this.1, kn _ this.2⟩
      · right
        rw [Int.toNat_natCast, f34, if_pos rfl]
        decide
    · rw [if_neg (fun a => z (mx_cmpE.mp a))]
      exact ⟨σ, N, rfl, mx_fq_rf, h0, Or.inr (by rw [Int.toNat_natCast]; exact z), mx_LS_rf⟩
theorem mx_LU_up {σ' : am_M} {N i : Nat} (h : mx_LU μ σ N i) (hF : mx_Fq [] mx_P37 σ σ') : mx_LU μ σ' N i ∧ mx_LS σ σ' N N := by
  have c34 : σ' 34 = σ 34 := funext fun j => hF 34 j (by simp) (by unfold mx_P37; simp)
  have c35 : σ' 35 = σ 35 := funext fun j => hF 35 j (by simp) (by unfold mx_P37; simp)
  have c33 : σ' 33 5 = σ 33 5 := hF 33 5 (by simp) (by unfold mx_P37; decide)
  obtain ⟨h1, h2, h3, h4, h5, h6, h7⟩ := h
  refine ⟨⟨mx_fq_tr h1 (mx_fq_up hF rfl), by rw [c33]; exact h2, by rw [c34]; exact h3, by rw [c34, c35]; exact h4, by rw [c34, c35]; exact h5, by rw [c35]; exact h6, ?_⟩, Nat.le_refl _, fun u q => ?_, fun k _ => by rw [c35]⟩
  · unfold mx_kn at h7 ⊢
    rw [c34, c35]; exact h7
  · unfold mx_kn at q ⊢
    rw [c34]; exact q
theorem mx_LU_g (hg : mx_gd μ) (hP : mx_Pv μ) {N i : Nat} (h : mx_LU μ σ N i) : mx_gd σ ∧ mx_Pv σ ∧ (∀ al d, mx_wl σ al d = mx_wl μ al d) ∧ (∀ d, mx_dd σ d ↔ mx_dd μ d) ∧ σ 37 5 = μ 37 5 := mx_cf (mx_fq_up h.1 rfl) hg hP
theorem co_listUnknown_42_s (hg : mx_gd μ) (hP : mx_Pv μ) (dp d i : Nat) (hdd : mx_dd μ d) : ∀ (R : List mx_wt) (M j N : Nat) (σ : am_M), j + R.length < 1000 → M < 900 → i < N → mx_LU μ σ N i → mx_ws σ d R M → (∀ w ∈ R, mx_wok μ w) →
    ∃ (σ' : am_M) (N' : Nat), co_listUnknown_42 (dp + 5) i j σ n = co_listUnknown_12 (dp + 5) (am_w ((i : Int) + 1)) σ' n ∧ mx_LU μ σ' N' i ∧ mx_LS σ σ' N N' ∧ ∀ w ∈ R, mx_kn σ' w.2.2.1 ∧ mx_kn σ' w.2.2.2.1 := by
  have hd := mx_dd_lt hg hdd
  intro R
  induction R with
  | nil =>
    intro M j N σ hj hM hi hL hw hk
    have j1k : (j : Int) < 1000 := by rw [List.length_nil] at hj; omega
    obtain ⟨g1, g2, -, g4, -⟩ := mx_LU_g hg hP hL
    rcases wa_advance_s (n := n) g1 g2 hd ((g4 d).mpr hdd) hM hw dp with ⟨-, σ', p1, p2⟩ | ⟨w, R', σ', M', q, -⟩
    · obtain ⟨u1, u2⟩ := mx_LU_up hL p2
      refine ⟨σ', N, ?_, u1, u2, fun w h => by cases h⟩
      rw [co_listUnknown_42_e, if_pos j1k, p1, Option.bind_some]
      rfl
    · cases q
  | cons w R ih =>
    intro M j N σ hj hM hi hL hw hk
    have j1k : (j : Int) < 1000 := by rw [List.length_cons] at hj; omega
    obtain ⟨g1, g2, -, g4, -⟩ := mx_LU_g hg hP hL
    rcases wa_advance_s (n := n) g1 g2 hd ((g4 d).mpr hdd) hM hw dp with ⟨q, -⟩ | ⟨w', R', σ1, M', q, p1, p2, p3, p4, p5, -⟩
    · cases q
    · cases q
      obtain ⟨u1, u2⟩ := mx_LU_up hL p2
      have ok := hk w List.mem_cons_self
      obtain ⟨σ2, N2, a1, a2, a3, a4, a5⟩ := co_listIfUnknown_s (n := n) hg (dp + 4) ok.1 (Nat.le_of_lt hi) u1
      have t14 : σ2 37 14 = w.2.2.2.1 := by rw [a2 37 14 (by decide) (by decide)]; exact p5.2.2.1
      obtain ⟨σ3, N3, b1, b2, b3, b4, b5⟩ := co_listIfUnknown_s (n := n) hg (dp + 4) ok.2.1 (by have := a5.1; omega) a3
      have w3 : mx_ws σ3 d R M' := mx_ws_fr (mx_fq_tr a2 b2) rfl p3
      obtain ⟨σ', N', e1, e2, e3, e4⟩ := ih M' (j + 1) N3 σ3 (by rw [List.length_cons] at hj; omega) (by omega) (by have := a5.1; have := b5.1; omega) b3 w3 (fun x hx => hk x (List.mem_cons_of_mem _ hx))
      refine ⟨σ', N', ?_, e2, mx_LS_tr u2 (mx_LS_tr a5 (mx_LS_tr b5 e3)), fun x hx => ?_⟩
      · rw [co_listUnknown_42_e, if_pos j1k, p1, Option.bind_some]
        dsimp only
        rw [if_neg (by decide), p5.2.1, a1, Option.bind_some]
        dsimp only
        rw [t14, b1, Option.bind_some, mx_w_nat j1k]
        exact e1
      · rcases List.mem_cons.mp hx with q | q
        · rw [q]
          exact ⟨e3.2.1 _ (b5.2.1 _ a4), e3.2.1 _ b4⟩
        · exact e4 x q
theorem co_listUnknown_12_s (hg : mx_gd μ) (hP : mx_Pv μ) (dp : Nat) : ∀ (t i N : Nat) (σ : am_M), i + t = 1920 → i ≤ N → mx_LU μ σ N i →
    ∃ (σ' : am_M) (N' : Nat), co_listUnknown_12 (dp + 5) i σ n = some (0, σ', n) ∧ mx_LU μ σ' N' N' ∧ mx_LS σ σ' N N' := by
  intro t
  induction t with
  | zero =>
    intro i N σ hi hiN hL
    have le := mx_kc_le (σ 34) 1920
    have eN : i = N := by have := hL.2.2.1; omega
    refine ⟨σ, N, ?_, by rw [eN] at hL; exact hL, mx_LS_rf⟩
    rw [co_listUnknown_12_e, hL.2.1, if_neg (by omega)]
  | succ t ih =>
    intro i N σ hi hiN hL
    by_cases z : i = N
    · refine ⟨σ, N, ?_, by rw [z] at hL; exact hL, mx_LS_rf⟩
      rw [co_listUnknown_12_e, hL.2.1, if_neg (by omega)]
    · have lt : (i : Int) < (N : Int) := by omega
      have I : (0 : Int) ≤ (i : Int) ∧ (i : Int) < 1920 := ⟨by omega, by omega⟩
      obtain ⟨x, x1, x2, x3, x4⟩ := hL.2.2.2.1 i (by omega)
      obtain ⟨g1, g2, g3, g4, g5⟩ := mx_LU_g hg hP hL
      have xd := (g4 x).mpr x2
      have xl := mx_dd_lt hg x2
      obtain ⟨σ1, M, a1, a2, a3, a4⟩ := wa_beginAll_s (n := n) g1 xl xd (dp + 2)
      obtain ⟨u1, u2⟩ := mx_LU_up hL a2
      rw [g3, g5] at a4
      have len := mx_wl_len hg (μ 37 5) x
      obtain ⟨σ2, N2, b1, b2, b3, b4⟩ := co_listUnknown_42_s (n := n) hg hP dp x i x2 _ M 0 N σ1 (by omega) a3 (by omega) u1 a4 (fun w hw => mx_wl_ok hg x2 hw)
      have w1 : am_w ((i : Int) + 1) = ((i + 1 : Nat) : Int) := by rw [mx_w_id (by clear b1; omega) (by clear b1; omega)]; rfl
      rw [w1] at b1
      clear w1
      have x2' : σ2 35 i = x := by rw [b3.2.2 i (by omega), u2.2.2 i (by omega)]; exact x1
      obtain ⟨l1, l2, l3, l4, l5, l6, l7⟩ := b2
      have L2 : mx_LU μ σ2 N2 (i + 1) := ⟨l1, l2, l3, l4, l5, l6, fun k hk y hy w hw => by
        by_cases q : k = i
        · subst q
          rw [x2'] at hy
          have : y = x := by omega
          subst this
          exact b4 w hw
        · exact l7 k (by omega) y hy w hw⟩
      obtain ⟨σ', N', e1, e2, e3⟩ := ih (i + 1) N2 σ2 (by omega) (by have := b3.1; omega) L2
      refine ⟨σ', N', ?_, e2, mx_LS_tr u2 (mx_LS_tr b3 e3)⟩
      rw [co_listUnknown_12_e, hL.2.1, if_pos lt, if_pos I.2, ix_35 I.1 I.2, Int.toNat_natCast, x1, show wa_beginAll (dp + 5) x σ n = _ from a1, Option.bind_some]
      dsimp only
      rw [show ((0 : Nat) : Int) = 0 from rfl] at b1
      rw [b1]
      exact e1
/-- listUnknown() -/
theorem co_listUnknown_s (hg : mx_gd μ) (hP : mx_Pv μ) (dp d : Nat) (hdd : mx_dd μ d) (hu : μ 34 d = -1) : ∃ (σ' : am_M) (N : Nat), co_listUnknown (dp + 6) d μ n = some (0, σ', n) ∧ mx_LU μ σ' N N ∧ ∃ k, k < N ∧ σ' 35 k = d := by
  have hd := mx_dd_lt hg hdd
  have L0 : mx_LU μ (am_wr μ 33 5 0) 0 0 := ⟨mx_fq_wr mx_fq_rf rfl, mx_wr_at, Nat.zero_le _, fun k h => absurd h (Nat.not_lt_zero _), fun x _ => Or.inl (by rw [mx_wr_ne (by decide)]), fun k l _ h => absurd h (Nat.not_lt_zero _), fun k h => absurd h (Nat.not_lt_zero _)⟩
  obtain ⟨σ1, N1, a1, a2, a3, a4, a5⟩ := co_listIfUnknown_s (n := n) hg (dp + 4) (v := d) (Or.inr ⟨d, rfl, hd, hdd⟩) (Nat.le_refl _) L0
  obtain ⟨σ', N', b1, b2, b3⟩ := co_listUnknown_12_s (n := n) hg hP dp 1920 0 N1 σ1 rfl (Nat.zero_le _) a3
  refine ⟨σ', N', ?_, b2, ?_⟩
  · rw [co_listUnknown_e, mx_m, show co_listIfUnknown (dp + 5) d (am_wr μ 33 5 0) n = _ from a1, Option.bind_some]
    exact b1
  · have kn := b3.2.1 _ a4
    rcases kn with q | q
    · omega
    · rw [Int.toNat_natCast] at q
      rcases b2.2.2.2.2.1 d hd with z | z
      · rw [z] at q; exact absurd hu q
      · exact z
end
