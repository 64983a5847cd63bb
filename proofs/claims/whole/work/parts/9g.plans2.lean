section
variable {n : Nat} {μ : am_M} {al : Int} {c : Nat → Int}
/-- what plans() does for an input -/
def mx_pl (μ τ τ' : am_M) (al : Int) (c : Nat → Int) (m : Nat) (v b : Int) : Prop := mx_Fq mx_Cn mx_Pn τ τ' ∧ (∀ a x, 125 ≤ a → a ≤ 133 → x < m → τ' a x = τ a x) ∧ ((b = 0 ∧ 120 < m + (mx_nds μ al c v).length) ∨ (b = 1 ∧ m + (mx_nds μ al c v).length ≤ 120 ∧ τ' 82 52 = ((m + (mx_nds μ al c v).length : Nat) : Int) ∧ mx_wn μ τ' al c m (mx_nds μ al c v)))
/-- an input: none, or a demand that costs less -/
def mx_vi (μ : am_M) (c : Nat → Int) (C : Nat) (v : Int) : Prop := v = -1 ∨ ∃ j : Nat, v = j ∧ mx_dd μ j ∧ c j ≤ 1000000000000 ∧ c j ≤ C
theorem mo_plans_244_s (hg : mx_gd μ) (hs : mx_sol μ al c) {C k : Nat} (ih : ∀ (m d : Nat) (τ : am_M), c d ≤ C → mx_dd μ d → c d ≤ 1000000000000 → mx_prd μ τ al c → τ 82 52 = m → m ≤ 120 → 133 ≤ k + m → ∃ (τ' : am_M) (b : Int), mo_plans k d τ n = some (b, τ', n) ∧ mx_pl μ τ τ' al c m d b)
    {v : Int} (hv : mx_vi μ c C v) (m : Nat) (τ : am_M) (hp : mx_prd μ τ al c) (hm : τ 82 52 = m) (h120 : m ≤ 120) (hk : 133 ≤ k + m) (X : am_M → Nat → Option am_R) :
    ∃ (τ' : am_M) (b : Int), (if v = -1 then X τ n else (mo_plans k v τ n).bind fun q1 => if q1.1 = 0 then some (0, q1.2.1, q1.2.2) else X q1.2.1 q1.2.2) = (if b = 0 then some (0, τ', n) else X τ' n) ∧ mx_pl μ τ τ' al c m v b := by
  rcases hv with q | ⟨j, j1, j2, j3, j4⟩
  · refine ⟨τ, 1, by rw [if_pos q, if_neg (by decide)], mx_fq_rf, fun _ _ _ _ _ => rfl, Or.inr ⟨rfl, ?_, ?_, ?_⟩⟩
    · rw [q]; exact h120
    · rw [q]; exact hm
    · rw [q]; intro i x hx; cases hx
  · obtain ⟨τ', b, a1, a2⟩ := ih m j τ j4 j2 j3 hp hm h120 hk
    refine ⟨τ', b, ?_, by rw [j1]; exact a2⟩
    rw [if_neg (show ¬ v = -1 by omega), j1, a1, Option.bind_some]
theorem mo_plans_s (hg : mx_gd μ) (hs : mx_sol μ al c) : ∀ (C k m d : Nat) (τ : am_M), c d ≤ C → mx_dd μ d → c d ≤ 1000000000000 → mx_prd μ τ al c → τ 82 52 = m → m ≤ 120 → 133 ≤ k + m →
    ∃ (τ' : am_M) (b : Int), mo_plans k d τ n = some (b, τ', n) ∧ mx_pl μ τ τ' al c m d b := by
  intro C
  induction C with
  | zero =>
    intro k m d τ hC hd hc hp hm h120 hk
    have := (hs d hd).1.1
    omega
  | succ C ih =>
    intro k m d τ hC hd hc hp hm h120 hk
    have hD := mx_dd_lt hg hd
    have c1 := (hs d hd).1.1
    obtain ⟨dp, rfl⟩ : ∃ dp, k = dp + 13 := ⟨k - 13, by omega⟩
    obtain ⟨w, w1, w2, w3, w4, w5⟩ := mx_pick1_s hg hs hd hc
    have en := mx_nds_e hg hs hd hc w1
    have len : (mx_nds μ al c d).length = 1 + (mx_nds μ al c w.2.2.1).length + (mx_nds μ al c w.2.2.2.1).length := by
      rw [en, List.length_cons, List.length_append]; omega
    by_cases hz : m = 120
    · refine ⟨τ, 0, ?_, mx_fq_rf, fun _ _ _ _ _ => rfl, Or.inl ⟨rfl, by omega⟩⟩
      rw [mo_plans_e, if_pos (by rw [hm]; omega)]
    · have hm2 : am_w (τ 82 52 + 1) = ((m + 1 : Nat) : Int) := by rw [hm]; exact mx_w_nat (by omega)
      obtain ⟨τ1, h1⟩ : ∃ τ1, τ1 = am_wr τ 82 52 ((m + 1 : Nat) : Int) := ⟨_, rfl⟩
      have F1 : mx_Fq [] [(82, 52)] τ τ1 := by rw [h1]; exact mx_fq_wr mx_fq_rf rfl
      have m1 : τ1 82 52 = ((m + 1 : Nat) : Int) := by rw [h1, mx_wr_at]
      have p1 := mx_prd_fr hp (mx_fq_up F1 rfl)
      obtain ⟨τ2, a1, a2, a3, a4⟩ := mo_waysOf_s (n := n) hg dp d hD hd τ1 p1.1
      rw [p1.2.1] at a3 a4
      have p2 := mx_prd_fr p1 (mx_fq_up a2 rfl)
      have m2 : τ2 82 52 = ((m + 1 : Nat) : Int) := (a2 82 52 (by decide) (by decide)).trans m1
      have cd := p2.2.2.2 d hd
      have eD : τ2 107 d = c d := by
        unfold mx_cap at cd
        split at cd <;> omega
      have okW : ∀ w ∈ mx_wl μ al d, mx_wok μ w := fun w hw => mx_wl_ok hg hd hw
      have pk := mx_pick_eq (f := c) p2.2.2.1 (mx_wl μ al d) (d := d) (v := c d) rfl eD hc (fun x hx => by
        have ok := okW x hx
        have cin : ∀ v, mx_vk μ v → mx_in c v = mx_in (mx_cap (τ2 107)) v := fun v hv => by
          unfold mx_in
          rcases hv with q | ⟨j, j1, j2, j3⟩
          · rw [if_pos q, if_pos q]
          · have nv : ¬ v = -1 := by omega
            rw [if_neg nv, if_neg nv, j1, Int.toNat_natCast]
            exact (p2.2.2.2 j j3).symm
        exact ⟨ok, cin _ ok.1, cin _ ok.2.1⟩)
      have pk2 : (mx_wl μ al d).find? (fun w => decide (mx_s1 (τ2 107) w = τ2 107 d)) = some w := pk.trans w1
      obtain ⟨j, b1, b2, b3⟩ := mo_plans_33_s (n := n) (dp + 11) d m hD (mx_wl μ al d) a4 a3 okW p2.2.2.1 (mx_wl μ al d) [] rfl pk2
      have by1 := mx_wl_by hg hd w2
      obtain ⟨τ3, d1, d2, d3, d4, d5, d6, d7, d8, d9⟩ := mo_plans_33_p (n := n) p2.1.1 (dp + 11) d m j hD (by omega) a4 a3 b1 w3 p2.2.2.1 b3 (by
        rcases by1 with q | ⟨e, e1, e2, e3, e4⟩
        · exact Or.inl ⟨q.1, q.2.1⟩
        · exact Or.inr ⟨e, e1, e2, by omega⟩)
      obtain ⟨τ4, h4⟩ : ∃ τ4, τ4 = am_wr (am_wr τ3 132 m (mx_hlf μ w)) 133 m (τ3 107 d) := ⟨_, rfl⟩
      have F4 : mx_Fq mx_Cn [] τ2 τ4 := by rw [h4]; exact mx_fq_wr (mx_fq_wr d2 rfl) rfl
      have O4 : ∀ a x, x ≠ m → τ4 a x = τ2 a x := fun a x hx => by
        rw [h4, ← d3 a x hx]
        unfold am_wr
        rw [if_neg (fun q => hx q.2), if_neg (fun q => hx q.2)]
      have N4 : mx_nr μ τ4 c m (d, w) := by
        rw [h4]
        refine ⟨?_, ?_, ?_, ?_, ?_, ?_, ?_, ?_⟩
        · rw [mx_wr_ne (by decide), mx_wr_ne (by decide)]; exact d4
        · rw [mx_wr_ne (by decide), mx_wr_ne (by decide)]; exact d5
        · rw [mx_wr_ne (by decide), mx_wr_ne (by decide)]; exact d6
        · rw [mx_wr_ne (by decide), mx_wr_ne (by decide)]; exact d7
        · rw [mx_wr_ne (by decide), mx_wr_ne (by decide)]; exact d8
        · rw [mx_wr_ne (by decide), mx_wr_ne (by decide)]; exact d9
        · rw [mx_wr_ne (by decide), mx_wr_at]
        · rw [mx_wr_at, d2 107 d (by decide) (by simp)]; exact eD
      have p4 := mx_prd_fr p2 (mx_fq_up F4 rfl)
      have m4 : τ4 82 52 = ((m + 1 : Nat) : Int) := (F4 82 52 (by decide) (by simp)).trans m2
      have Ft4 : mx_Fq mx_Cn mx_Pn τ τ4 := mx_fq_tr (mx_fq_up F1 rfl) (mx_fq_tr (mx_fq_up a2 rfl) (mx_fq_up F4 rfl))
      have Ot4 : ∀ a x, 125 ≤ a → a ≤ 133 → x < m → τ4 a x = τ a x := fun a x q1 q2 hx => by
        rw [O4 a x (by omega), a2 a x (by simp only [List.mem_cons, List.not_mem_nil, or_false, not_or]; omega) (by simp only [List.mem_cons, List.not_mem_nil, or_false, Prod.mk.injEq]; omega), F1 a x (by simp) (by simp only [List.mem_cons, List.not_mem_nil, or_false, Prod.mk.injEq]; omega)]
      have vi : ∀ v, (v = w.2.2.1 ∨ v = w.2.2.2.1) → mx_vi μ c C v := fun v hv => by
        by_cases nv : v = -1
        · exact Or.inl nv
        · obtain ⟨i, i1, i2, i3, i4, i5⟩ := w5 v hv nv
          exact Or.inr ⟨i, i1, i2, by omega, by omega⟩
      have IH : ∀ (m d : Nat) (τ : am_M), c d ≤ C → mx_dd μ d → c d ≤ 1000000000000 → mx_prd μ τ al c → τ 82 52 = m → m ≤ 120 → 133 ≤ dp + 12 + m → ∃ (τ' : am_M) (b : Int), mo_plans (dp + 12) d τ n = some (b, τ', n) ∧ mx_pl μ τ τ' al c m d b := fun m d τ => ih (dp + 12) m d τ
      have st : mo_plans (dp + 13) d τ n = mo_plans_216 (dp + 12) d m w.2.2.1 w.2.2.2.1 m (mx_hlf μ w) τ3 n := by
        rw [mo_plans_e, if_neg (by rw [hm]; omega), mx_m, hm2, ← h1, a1, Option.bind_some, hm]
        dsimp only
        exact b2.trans d1
      obtain ⟨τ5, b5, g1, g2, g3, g4⟩ := mo_plans_244_s (n := n) hg hs IH (vi _ (Or.inl rfl)) (m + 1) τ4 p4 m4 (by omega) (by omega) (fun σ n => mo_plans_244 (dp + 12) m w.2.2.2.1 σ n)
      have st2 : mo_plans (dp + 13) d τ n = if b5 = 0 then some (0, τ5, n) else mo_plans_244 (dp + 12) m w.2.2.2.1 τ5 n := by
        rw [st, mo_plans_216_s (dp + 12) d m hD (by omega), ← h4]
        exact g1
      have Ft5 := mx_fq_tr Ft4 g2
      have Ot5 : ∀ a x, 125 ≤ a → a ≤ 133 → x < m → τ5 a x = τ a x := fun a x q1 q2 hx => (g3 a x q1 q2 (by omega)).trans (Ot4 a x q1 q2 hx)
      rcases g4 with ⟨q, q1⟩ | ⟨q, q1, q2, q3⟩
      · exact ⟨τ5, 0, by rw [st2, if_pos q], Ft5, Ot5, Or.inl ⟨rfl, by omega⟩⟩
      · have p5 := mx_prd_fr p4 g2
        obtain ⟨τ6, b6, u1, u2, u3, u4⟩ := mo_plans_244_s (n := n) hg hs IH (vi _ (Or.inr rfl)) (m + 1 + (mx_nds μ al c w.2.2.1).length) τ5 p5 q2 q1 (by omega) (fun σ n => am_ix 131 m (am_m (am_wr σ 131 m (am_w (σ 82 52 - m))) fun σ1 => some (1, σ1, n)))
        have st3 : mo_plans (dp + 13) d τ n = if b6 = 0 then some (0, τ6, n) else am_ix 131 m (am_m (am_wr τ6 131 m (am_w (τ6 82 52 - m))) fun σ1 => some (1, σ1, n)) := by
          rw [st2, if_neg (by omega), mo_plans_244_e, ← u1]
          rfl
        have Ft6 := mx_fq_tr Ft5 u2
        have Ot6 : ∀ a x, 125 ≤ a → a ≤ 133 → x < m → τ6 a x = τ a x := fun a x q1 q2 hx => (u3 a x q1 q2 (by omega)).trans (Ot5 a x q1 q2 hx)
        rcases u4 with ⟨z, z1⟩ | ⟨z, z1, z2, z3⟩
        · exact ⟨τ6, 0, by rw [st3, if_pos z], Ft6, Ot6, Or.inl ⟨rfl, by omega⟩⟩
        · have I : (0 : Int) ≤ (m : Int) ∧ (m : Int) < 121 := ⟨by omega, by omega⟩
          have wv : am_w (τ6 82 52 - m) = ((mx_nds μ al c d).length : Nat) := by
            rw [z2, len, mx_w_id (by omega) (by omega)]; omega
          refine ⟨am_wr τ6 131 m ((mx_nds μ al c d).length : Nat), 1, ?_, mx_fq_wr Ft6 rfl, fun a x q1 q2 hx => ?_, Or.inr ⟨rfl, by omega, ?_, ?_⟩⟩
          · rw [st3, if_neg (by omega), ix_131 I.1 I.2, mx_m, wv]
          · rw [← Ot6 a x q1 q2 hx]
            unfold am_wr
            rw [if_neg (fun q => by omega)]
          · rw [mx_wr_ne (by decide), z2]; omega
          · have K : ∀ a, 125 ≤ a → a ≤ 133 → τ6 a m = τ4 a m := fun a q1 q2 => (u3 a m q1 q2 (by omega)).trans (g3 a m q1 q2 (by omega))
            have nd : mx_nr μ (am_wr τ6 131 m ((mx_nds μ al c d).length : Nat)) c m (d, w) := by
              unfold mx_nr at N4 ⊢
              rw [mx_wr_ne (by decide), mx_wr_ne (by decide), mx_wr_ne (by decide), mx_wr_ne (by decide), mx_wr_ne (by decide), mx_wr_ne (by decide), mx_wr_ne (by decide), mx_wr_ne (by decide), K 125 (by decide) (by decide), K 126 (by decide) (by decide), K 127 (by decide) (by decide), K 128 (by decide) (by decide), K 129 (by decide) (by decide), K 130 (by decide) (by decide), K 132 (by decide) (by decide), K 133 (by decide) (by decide)]
              exact N4
            have off : ∀ a x, x ≠ m → am_wr τ6 131 m ((mx_nds μ al c d).length : Nat) a x = τ6 a x := fun a x hx => by
              unfold am_wr
              rw [if_neg (fun q => hx q.2)]
            have wA : mx_wn μ (am_wr τ6 131 m ((mx_nds μ al c d).length : Nat)) al c (m + 1) (mx_nds μ al c w.2.2.1) := by
              intro i x hx
              have hl := (List.getElem?_eq_some_iff.mp hx).1
              have := mx_wn_fr q3 (fun a x q1 q2 hx => u3 a x q1 q2 hx) i x hx
              unfold mx_nr at this ⊢
              simp only [off _ _ (show m + 1 + i ≠ m by omega)]
              exact this
            have wB : mx_wn μ (am_wr τ6 131 m ((mx_nds μ al c d).length : Nat)) al c (m + 1 + (mx_nds μ al c w.2.2.1).length) (mx_nds μ al c w.2.2.2.1) := by
              intro i x hx
              have := z3 i x hx
              unfold mx_nr at this ⊢
              simp only [off _ _ (show m + 1 + (mx_nds μ al c w.2.2.1).length + i ≠ m by omega)]
              exact this
            have := mx_wn_cons (x := (d, w)) ⟨nd, by rw [mx_wr_at]⟩ (mx_wn_app wA wB)
            rw [← en] at this
            exact this
end
