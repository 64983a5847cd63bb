/-! READ: where an expression begins -/
section
variable {n : Nat} {σ μ τ τb : am_M} {T : Nat → Int}
def mx_kb (v : Int) : Int := if v = 115 then 1 else if v = 107 then 3 else if v = 116 then 4 else if v = 106 then 5 else if v = 104 then 6 else 0
def mx_wx (k : Int) : Nat := if k = 1 then 0 else if k = 3 then 1 else if k = 4 then 2 else if k = 5 then 3 else 4
def mx_dgs (tn k : Int) : Int := if k = 1 then tn else if k = 3 then 8 else 4
/-- a word, a blank, a digit: up to where, of which kind (0: the fault) -/
def mx_bg (T : Nat → Int) (tn : Int) (a : Nat) : Nat × Int :=
  if mx_kb (T a) = 0 then (a, 0) else if (mx_mtc T a (mx_ww (mx_wx (mx_kb (T a))))).2 = true then
    (if 48 ≤ T (mx_mtc T a (mx_ww (mx_wx (mx_kb (T a))))).1 ∧ T (mx_mtc T a (mx_ww (mx_wx (mx_kb (T a))))).1 < 48 + mx_dgs tn (mx_kb (T a)) then ((mx_mtc T a (mx_ww (mx_wx (mx_kb (T a))))).1 + 1, mx_kb (T a)) else ((mx_mtc T a (mx_ww (mx_wx (mx_kb (T a))))).1, 0))
  else ((mx_mtc T a (mx_ww (mx_wx (mx_kb (T a))))).1, 0)
theorem mx_kb_k (v : Int) : mx_kb v = 0 ∨ mx_kd (mx_kb v) := by
  unfold mx_kb mx_kd
  (repeat' split) <;> simp
theorem mx_wx_lt (k : Int) : mx_wx k < 5 := by
  unfold mx_wx
  (repeat' split) <;> decide
theorem mx_ww_5 : ∀ k, k < 5 → 5 ≤ (mx_ww k).length ∧ ∀ c ∈ mx_ww k, 0 ≤ c := by decide
/-- what is known of it -/
theorem mx_bg_s {S a : Nat} {tn : Int} (hT : ∀ i, S ≤ i → T i = -1) (ha : a ≤ S) : (mx_bg T tn a).1 ≤ S ∧ a ≤ (mx_bg T tn a).1 ∧ ((mx_bg T tn a).2 ≠ 0 → mx_kd (mx_bg T tn a).2 ∧ a + 6 ≤ (mx_bg T tn a).1 ∧ 48 ≤ T ((mx_bg T tn a).1 - 1) ∧ T ((mx_bg T tn a).1 - 1) < 48 + mx_dgs tn (mx_bg T tn a).2) := by
  have w := mx_ww_5 _ (mx_wx_lt (mx_kb (T a)))
  have g := mx_mtc_ge T (mx_ww (mx_wx (mx_kb (T a)))) a
  have l := mx_mtc_le hT (mx_ww (mx_wx (mx_kb (T a)))) a w.2 ha
  unfold mx_bg
  by_cases z : mx_kb (T a) = 0
  · rw [if_pos z]
    exact ⟨ha, Nat.le_refl _, fun q => absurd rfl q⟩
  · rw [if_neg z]
    by_cases y : (mx_mtc T a (mx_ww (mx_wx (mx_kb (T a))))).2 = true
    · rw [if_pos y]
      have e := g.2.1 y
      generalize (mx_mtc T a (mx_ww (mx_wx (mx_kb (T a))))).1 = p at *
      by_cases x : 48 ≤ T p ∧ T p < 48 + mx_dgs tn (mx_kb (T a))
      · rw [if_pos x]
        have pS : p < S := by
          by_cases u : S ≤ p
          · have := hT p u; omega
          · omega
        refine ⟨pS, by show a ≤ p + 1; omega, fun _ => ⟨?_, by show a + 6 ≤ p + 1; omega, x⟩⟩
        rcases mx_kb_k (T a) with q | q
        · exact absurd q z
        · exact q
      · rw [if_neg x]
        exact ⟨l, g.1, fun q => absurd rfl q⟩
    · rw [if_neg y]
      exact ⟨l, g.1, fun q => absurd rfl q⟩
theorem re_kindBy_s (d : Nat) (v : Int) (σ : am_M) : re_kindBy (d + 1) v σ n = some (if mx_kb v = 0 then -1 else mx_kb v, σ, n) := by
  rw [re_kindBy_e]
  by_cases h1 : v = 115
  · subst h1; rfl
  · by_cases h2 : v = 107
    · subst h2; rfl
    · by_cases h3 : v = 116
      · subst h3; rfl
      · by_cases h4 : v = 106
        · subst h4; rfl
        · by_cases h5 : v = 104
          · subst h5; rfl
          · have : mx_kb v = 0 := by unfold mx_kb; rw [if_neg h1, if_neg h2, if_neg h3, if_neg h4, if_neg h5]
            rw [if_pos this, if_neg h5]
            (repeat' split) <;> first | rfl | omega
theorem pm_wordOf_s (d : Nat) {k : Int} (hk : mx_kd k) (σ : am_M) : pm_wordOf (d + 1) k σ n = some (((2000 + mx_wx k : Nat) : Int), σ, n) := by
  rw [pm_wordOf_e]
  rcases hk with q | q | q | q | q <;> subst q <;> rfl
/-- the class begins -/
theorem re_beginOne_s {s S a : Nat} {L : List mx_pt} {O : List mx_po} (h : mx_rcs μ σ s a L O) (hs : s < 8) (hS : μ (66 + 2 * s) 1 = S) (hS2 : S ≤ 160) (ha : a ≤ S) (hl : L.length < 32) (hO : O.length < 32) (ht : 0 ≤ μ 2 0 ∧ μ 2 0 ≤ 8) (dp : Nat) :
    ((mx_bg (mx_tx (μ (67 + 2 * s)) S) (μ 2 0) a).2 = 0 → re_beginOne (dp + 5) σ n = some (0, am_wr σ 43 2 ((mx_bg (mx_tx (μ (67 + 2 * s)) S) (μ 2 0) a).1 : Nat), n)) ∧
    ((mx_bg (mx_tx (μ (67 + 2 * s)) S) (μ 2 0) a).2 ≠ 0 → ∃ σ' : am_M, re_beginOne (dp + 5) σ n = some (1, σ', n) ∧ mx_rcs μ σ' s (mx_bg (mx_tx (μ (67 + 2 * s)) S) (μ 2 0) a).1 L (O ++ [((mx_bg (mx_tx (μ (67 + 2 * s)) S) (μ 2 0) a).2, mx_tx (μ (67 + 2 * s)) S ((mx_bg (mx_tx (μ (67 + 2 * s)) S) (μ 2 0) a).1 - 1) - 48, -1, (a : Int))])) := by
  have hh := h
  obtain ⟨h1, h2, h3, h4, h5, h6, h7⟩ := h
  have kE : σ (67 + 2 * s) = μ (67 + 2 * s) := mx_rcs_k hh (by omega)
  have kS : σ (66 + 2 * s) 1 = S := by rw [mx_rcs_k hh (by omega)]; exact hS
  have k2 : σ 2 = μ 2 := mx_rcs_k hh (by decide)
  have s0 : ¬ σ 43 1 < 0 := by rw [h1]; omega
  have Tr : ∀ i, -2147483648 ≤ mx_tx (μ (67 + 2 * s)) S i ∧ mx_tx (μ (67 + 2 * s)) S i < 2147483648 := fun i => by
    unfold mx_tx
    split
    · exact mx_w_rg _
    · omega
  generalize hT : mx_tx (μ (67 + 2 * s)) S = T at *
  have lt1 : re_letter (dp + 4) σ n = some (T a, σ, n) := by
    rw [re_letter_s (dp + 1) s S a hs (by omega) h1 h2 kS hS2, kE, hT]
  have go : re_beginOne (dp + 5) σ n = if mx_kb (T a) = 0 then some (0, σ, n) else re_beginOne_46 (dp + 4) a (mx_kb (T a)) ((2000 + mx_wx (mx_kb (T a)) : Nat) : Int) 0 σ n := by
    rw [re_beginOne_e, lt1, Option.bind_some]
    dsimp only
    rw [re_kindBy_s, Option.bind_some]
    dsimp only
    rcases mx_kb_k (T a) with z | z
    · rw [if_pos z, if_pos z, if_pos rfl]
    · have nz : mx_kb (T a) ≠ 0 := by rcases z with q | q | q | q | q <;> rw [q] <;> decide
      have n1 : ¬ mx_kb (T a) = -1 := by rcases z with q | q | q | q | q <;> rw [q] <;> decide
      rw [if_neg nz, if_neg nz, if_neg n1, if_pos (by rw [h4]; omega), if_pos (by rw [h3]; omega), pm_wordOf_s _ z, Option.bind_some, h2]
  unfold mx_bg
  rw [go]
  by_cases z : mx_kb (T a) = 0
  · rw [if_pos z, if_pos z]
    exact ⟨fun _ => by rw [mx_wr_self h2], fun q => absurd rfl q⟩
  · rw [if_neg z, if_neg z]
    have w5 := mx_wx_lt (mx_kb (T a))
    have w6 := mx_ww_6 _ w5
    have ff := re_beginOne_46_s (n := n) dp s S (mx_wx (mx_kb (T a))) a (mx_kb (T a)) (by omega) hs hS2 (mx_ww (mx_wx (mx_kb (T a)))) [] a σ rfl (by omega) h1 h2 kS
    rw [kE, hT] at ff
    rw [show re_beginOne_46 (dp + 4) a (mx_kb (T a)) ((2000 + mx_wx (mx_kb (T a)) : Nat) : Int) 0 σ n = _ from ff]
    have gp := mx_mtc_ge T (mx_ww (mx_wx (mx_kb (T a)))) a
    by_cases y : (mx_mtc T a (mx_ww (mx_wx (mx_kb (T a))))).2 = true
    · rw [if_pos y, if_pos y]
      have kd : mx_kd (mx_kb (T a)) := by
        rcases mx_kb_k (T a) with q | q
        · exact absurd q z
        · exact q
      generalize (mx_mtc T a (mx_ww (mx_wx (mx_kb (T a))))).1 = p at *
      have p9 : p ≤ 900 := by omega
      obtain ⟨σ1, hσ1⟩ : ∃ σ1, σ1 = am_wr σ 43 2 (p : Nat) := ⟨_, rfl⟩
      have r1 : mx_rcs μ σ1 s p L O := by rw [hσ1]; exact mx_rcs_at hh
      have v0 : ¬ ((2000 + mx_wx (mx_kb (T a)) : Nat) : Int) < 0 := by omega
      have lt2 : re_letter (dp + 4) σ1 n = some (T p, σ1, n) := by
        rw [re_letter_s (dp + 1) s S p hs (by omega) r1.1 r1.2.1 (by rw [mx_rcs_k r1 (by omega)]; exact hS) hS2, mx_rcs_k r1 (by omega), hT]
      have dg : re_digitsOf (dp + 4) (mx_kb (T a)) σ1 n = some (mx_dgs (μ 2 0) (mx_kb (T a)), σ1, n) := by
        rw [re_digitsOf_e, mx_rcs_k r1 (i := 2) (by decide)]
        unfold mx_dgs
        (repeat' split) <;> rfl
      have dg8 : 0 ≤ mx_dgs (μ 2 0) (mx_kb (T a)) ∧ mx_dgs (μ 2 0) (mx_kb (T a)) ≤ 8 := by
        unfold mx_dgs
        (repeat' split) <;> omega
      have Tp := Tr p
      have s1 : ¬ σ1 43 1 < 0 := by rw [r1.1]; omega
      have wk : (¬ am_w (T p - 48) < 0 ∧ am_w (T p - 48) < mx_dgs (μ 2 0) (mx_kb (T a))) ↔ (48 ≤ T p ∧ T p < 48 + mx_dgs (μ 2 0) (mx_kb (T a))) := by
        by_cases u : -2147483648 ≤ T p - 48
        · rw [mx_w_id u (by omega)]; omega
        · have w0 : am_w 4294967296 = 0 := rfl
          have w1 := mx_w_add 4294967296 (T p - 48)
          rw [w0, Int.zero_add, mx_w_id (z := 4294967296 + (T p - 48)) (by omega) (by omega)] at w1
          rw [w1]; omega
      rw [← hσ1, re_beginOne_46_e, mx_if_t v0, st_length_s (dp + 2) _ (by omega), Option.bind_some]
      dsimp only
      rw [if_neg (Int.lt_irrefl _), lt2, Option.bind_some]
      dsimp only
      by_cases x : 48 ≤ T p ∧ T p < 48 + mx_dgs (μ 2 0) (mx_kb (T a))
      · obtain ⟨x1, x2⟩ := wk.mpr x
        rw [if_pos x, if_neg x1, dg, Option.bind_some]
        dsimp only
        rw [if_pos x2]
        clear wk x1 x2
        refine ⟨fun q => absurd q z, fun _ => ?_⟩
        have e48 : am_w (T p - 48) = T p - 48 := mx_w_id (by omega) (by omega)
        have Io : (0 : Int) ≤ (O.length : Int) ∧ (O.length : Int) < 32 := ⟨by omega, by omega⟩
        have p1k : (p : Int) < 1000 := by omega
        have o1k : (O.length : Int) < 1000 := by omega
        have r2 := mx_rcs_at (a' := p + 1) r1
        obtain ⟨σ2, hσ2⟩ : ∃ σ2, σ2 = am_wr σ1 43 2 ((p + 1 : Nat) : Int) := ⟨_, rfl⟩
        rw [← hσ2] at r2
        obtain ⟨c1, c2, c3, c4, c5, c6, c7⟩ := r2
        obtain ⟨σ3, hσ3⟩ : ∃ σ3, σ3 = am_wr (am_wr (am_wr (am_wr σ2 50 O.length (mx_kb (T a))) 51 O.length (T p - 48)) 52 O.length (-1)) 53 O.length a := ⟨_, rfl⟩
        have F3 : mx_Fq [50, 51, 52, 53] [] σ2 σ3 := by rw [hσ3]; exact mx_fq_wr (mx_fq_wr (mx_fq_wr (mx_fq_wr mx_fq_rf rfl) rfl) rfl) rfl
        have O3 : ∀ b j, j ≠ O.length → σ3 b j = σ2 b j := fun b j hj => by
          rw [hσ3]
          unfold am_wr
          rw [if_neg (fun q => hj q.2), if_neg (fun q => hj q.2), if_neg (fun q => hj q.2), if_neg (fun q => hj q.2)]
        refine ⟨am_wr σ3 43 10 ((O.length + 1 : Nat) : Int), ?_, ?_⟩
        · rw [mx_m, r1.2.1, mx_w_nat p1k, ← hσ2, e48, c4, ix_50 Io.1 Io.2, mx_m, mx_wr_ne (show (43 : Nat) ≠ 50 by decide), c4, ix_51 Io.1 Io.2, mx_m, mx_wr_ne (show (43 : Nat) ≠ 51 by decide), mx_wr_ne (show (43 : Nat) ≠ 50 by decide), c4, ix_52 Io.1 Io.2, mx_m, mx_wr_ne (show (43 : Nat) ≠ 52 by decide), mx_wr_ne (show (43 : Nat) ≠ 51 by decide), mx_wr_ne (show (43 : Nat) ≠ 50 by decide), c4, ix_53 Io.1 Io.2, mx_m, Int.toNat_natCast, ← hσ3, mx_m, F3 43 10 (by decide) (by simp), c4, mx_w_nat o1k]
        · have k3 : ∀ b, b ≠ 43 → am_wr σ3 43 10 ((O.length + 1 : Nat) : Int) b = σ3 b := fun b q => mx_wr_ne q
          refine ⟨?_, ?_, ?_, ?_, fun i q hq => ?_, fun i w hw => ?_, ?_⟩
          · rw [mx_wr_off (by decide), F3 43 1 (by decide) (by simp)]; exact c1
          · rw [mx_wr_off (by decide), F3 43 2 (by decide) (by simp)]; exact c2
          · rw [mx_wr_off (by decide), F3 43 3 (by decide) (by simp)]; exact c3
          · rw [mx_wr_at, List.length_append, List.length_singleton]
          · rw [k3 44 (by decide), k3 45 (by decide), k3 46 (by decide), k3 47 (by decide), k3 48 (by decide), F3 44 i (by decide) (by simp), F3 45 i (by decide) (by simp), F3 46 i (by decide) (by simp), F3 47 i (by decide) (by simp), F3 48 i (by decide) (by simp)]
            exact c5 i q hq
          · rw [k3 50 (by decide), k3 51 (by decide), k3 52 (by decide), k3 53 (by decide)]
            by_cases v : i < O.length
            · rw [List.getElem?_append_left v] at hw
              rw [O3 50 i (by omega), O3 51 i (by omega), O3 52 i (by omega), O3 53 i (by omega)]
              exact c6 i w hw
            · have hl' := (List.getElem?_eq_some_iff.mp hw).1
              rw [List.length_append, List.length_singleton] at hl'
              have : i = O.length := by omega
              rw [List.getElem?_append_right (by omega), this, Nat.sub_self] at hw
              cases hw
              subst this
              rw [hσ3]
              refine ⟨?_, ?_, ?_, ?_⟩
              · rw [mx_wr_ne (by decide), mx_wr_ne (by decide), mx_wr_ne (by decide), mx_wr_at]
              · rw [mx_wr_ne (by decide), mx_wr_ne (by decide), mx_wr_at, Nat.add_sub_cancel]
              · rw [mx_wr_ne (by decide), mx_wr_at]
              · rw [mx_wr_at]
          · exact mx_fq_wr (mx_fq_tr c7 (mx_fq_up F3 rfl)) rfl
      · rw [if_neg x]
        refine ⟨fun _ => ?_, fun q => absurd rfl q⟩
        by_cases x1 : am_w (T p - 48) < 0
        · rw [if_pos x1]
          rw [hσ1]
        · rw [if_neg x1, dg, Option.bind_some]
          dsimp only
          rw [if_neg (fun q => x (wk.mp ⟨x1, q⟩))]
          rw [hσ1]
    · rw [if_neg y, if_neg y]
      exact ⟨fun _ => rfl, fun q => absurd rfl q⟩
end
