section
variable {t n : Nat} {σ₀ μ : am_M} {al : Int} {c : Nat → Int}
theorem mx_finP2 {p : Nat} (hp : p = 58 ∨ p = 62) : am_fin p 2 = ((p + 3 : Nat) : Int) ∧ ∀ (j : Nat) (x : Option am_R), j < 120 → am_ix ((p + 3 : Nat) : Int) (j : Int) x = x := by
  rcases hp with q | q <;> subst q
  · exact ⟨rfl, fun j x hj => ix_61 (by omega) (by omega)⟩
  · exact ⟨rfl, fun j x hj => ix_65 (by omega) (by omega)⟩
/-- what make() leaves alone -/
def mx_mf (p : Nat) (μ σ : am_M) : Prop := ∀ a x, a ≠ p → a ≠ p + 1 → a ≠ p + 2 → a ≠ p + 3 → (a, x) ∉ mx_P37 → σ a x = μ a x
theorem mx_mf_58 {p : Nat} (hp : p = 58 ∨ p = 62) {σ : am_M} (h : mx_mf p μ σ) : mx_Fq mx_C58 mx_P37 μ σ := fun a x q q2 => by
  simp only [List.mem_cons, List.not_mem_nil, or_false, not_or] at q
  exact h a x (by omega) (by omega) (by omega) (by omega) q2
theorem mx_mf_tr {p : Nat} {σ σ' : am_M} (h : mx_mf p μ σ) (h' : mx_mf p σ σ') : mx_mf p μ σ' := fun a x q1 q2 q3 q4 q5 => (h' a x q1 q2 q3 q4 q5).trans (h a x q1 q2 q3 q4 q5)
/-- the nodes of a stack -/
def mx_sk (μ : am_M) (al : Int) (c : Nat → Int) (T : List Nat) : List (Nat × mx_wt) := T.reverse.flatMap fun (d : Nat) => mx_nds μ al c (d : Int)
theorem mx_sk_app (T : List Nat) (d : Nat) : mx_sk μ al c (T ++ [d]) = mx_nds μ al c d ++ mx_sk μ al c T := by
  unfold mx_sk
  rw [List.reverse_append, List.reverse_singleton, List.flatMap_append, List.flatMap_singleton]
theorem mx_sk_len (hg : mx_gd μ) (hs : mx_sol μ al c) : ∀ T : List Nat, (∀ d ∈ T, mx_dd μ d ∧ c d ≤ 1000000000000) → T.length ≤ (mx_sk μ al c T).length := by
  intro T
  unfold mx_sk
  rw [← List.length_reverse (as := T)]
  have key : ∀ R : List Nat, (∀ d ∈ R, mx_dd μ d ∧ c d ≤ 1000000000000) → R.length ≤ (R.flatMap fun (d : Nat) => mx_nds μ al c (d : Int)).length := by
    intro R
    induction R with
    | nil => intro _; exact Nat.le_refl _
    | cons d R ih =>
      intro h
      obtain ⟨w, t, ht⟩ := mx_nds_hd hg hs (h d List.mem_cons_self).1 (h d List.mem_cons_self).2
      have := ih (fun x hx => h x (List.mem_cons_of_mem _ hx))
      rw [List.flatMap_cons, List.length_append, ht, List.length_cons, List.length_cons]
      omega
  intro h
  exact key T.reverse (fun d hd => h d (List.mem_reverse.mp hd))
theorem pl_make_20_s (hq : mx_pq t σ₀ μ al c) {p : Nat} (hp : p = 58 ∨ p = 62) (dp : Nat) : ∀ (f m : Nat) (T : List Nat) (N : List (Nat × mx_wt)) (σ : am_M), 120 ≤ f + m → mx_mf p μ σ → σ p 3 = m → N.length = m → m + T.length ≤ 120 → (∀ (j d : Nat), T[j]? = some d → σ (p + 3) j = d) → (∀ d ∈ T, mx_dd μ d ∧ μ 34 d ≠ -1 ∧ c d ≤ 1000000000000) → (∀ i x, N[i]? = some x → mx_fn μ σ c p i x) → mx_np μ al c (N ++ mx_sk μ al c T) →
    ∃ (σ' : am_M) (b : Int), pl_make_20 (dp + 6) p T.length σ n = some (b, σ', n) ∧ mx_mf p μ σ' ∧ ((b = 0 ∧ 120 < (N ++ mx_sk μ al c T).length) ∨ (b = 1 ∧ (N ++ mx_sk μ al c T).length ≤ 120 ∧ σ' p 3 = ((N ++ mx_sk μ al c T).length : Nat) ∧ ∀ i x, (N ++ mx_sk μ al c T)[i]? = some x → mx_fn μ σ' c p i x ∧ σ' (p + 1) (8 * i + 6) = ((mx_nds μ al c x.1).length : Nat))) := by
  have p0 : ¬ (p : Int) < 0 := by omega
  have hgμ := hq.1.2.2.1
  have hPμ := hq.1.2.2.2.2.1
  have alμ := hq.1.2.2.2.2.2.2.1
  have hs := hq.2
  obtain ⟨f0, known⟩ := mx_pq_f0 hq
  obtain ⟨fin2, X3⟩ := mx_finP2 hp
  obtain ⟨-, fin1⟩ := mx_finP hp
  have X1 : ∀ (k : Nat) (x : Option am_R), k < 120 → am_ix ((p + 2 : Nat) : Int) (k : Int) x = x := fun k x hk => (mx_ixP hp (by omega)).2 (by omega)
  -- the end
  have theEnd : ∀ (m : Nat) (N : List (Nat × mx_wt)) (σ : am_M), mx_mf p μ σ → σ p 3 = m → N.length = m → m ≤ 120 → (∀ i x, N[i]? = some x → mx_fn μ σ c p i x) → mx_np μ al c N →
      ∃ σ' : am_M, ((pl_countNodes (dp + 6) p σ n).bind fun q2 => some ((1 : Int), q2.2.1, q2.2.2)) = some (1, σ', n) ∧ mx_mf p μ σ' ∧ σ' p 3 = (N.length : Nat) ∧ ∀ i x, N[i]? = some x → mx_fn μ σ' c p i x ∧ σ' (p + 1) (8 * i + 6) = ((mx_nds μ al c x.1).length : Nat) := fun m N σ hm h3 hN h120 hw hn => by
    obtain ⟨σ', a1, a2, a3⟩ := pl_countNodes_s (n := n) hgμ hs hp (dp + 4) hn (by omega) σ (by rw [h3, hN]) (fun j x hx => (hw j x hx).1)
    refine ⟨σ', by rw [show pl_countNodes (dp + 6) p σ n = _ from a1, Option.bind_some], fun a x q1 q2 q3 q4 q5 => by rw [a2 a x (fun z => absurd z q2)]; exact hm a x q1 q2 q3 q4 q5, ?_, fun i x hx => ⟨?_, a3 i x hx⟩⟩
    · rw [a2 p 3 (by omega), h3, hN]
    · have := hw i x hx
      unfold mx_fn at this ⊢
      rw [a2 (p + 1) (8 * i) (by omega), a2 (p + 1) (8 * i + 1) (by omega), a2 (p + 1) (8 * i + 2) (by omega), a2 (p + 1) (8 * i + 3) (by omega), a2 (p + 1) (8 * i + 4) (by omega), a2 (p + 1) (8 * i + 5) (by omega), a2 (p + 1) (8 * i + 7) (by omega), a2 (p + 2) i (by omega)]
      exact this
  intro f
  induction f with
  | zero =>
    intro m T N σ hf hm h3 hN h120 hT hd hw hn
    have m120 : m = 120 := by omega
    have T0 : T = [] := List.eq_nil_of_length_eq_zero (by omega)
    subst T0
    have sk : N ++ mx_sk μ al c [] = N := List.append_nil N
    rw [sk] at hn ⊢
    obtain ⟨σ', a1, a2, a3, a4⟩ := theEnd m N σ hm h3 hN (by omega) hw hn
    refine ⟨σ', 1, ?_, a2, Or.inr ⟨rfl, by omega, a3, a4⟩⟩
    rw [pl_make_20_e, mx_if_t p0, Int.toNat_natCast, if_neg (by rw [h3]; omega), mx_if_t p0]
    exact a1
  | succ f ih =>
    intro m T N σ hf hm h3 hN h120 hT hd hw hn
    rcases List.eq_nil_or_concat T with rfl | ⟨T0, d, rfl⟩
    · have sk : N ++ mx_sk μ al c [] = N := List.append_nil N
      rw [sk] at hn ⊢
      obtain ⟨σ', a1, a2, a3, a4⟩ := theEnd m N σ hm h3 hN (by omega) hw hn
      refine ⟨σ', 1, ?_, a2, Or.inr ⟨rfl, by omega, a3, a4⟩⟩
      rw [pl_make_20_e, mx_if_t p0, Int.toNat_natCast]
      split
      · rw [if_neg (by decide), mx_if_t p0]
        exact a1
      · rw [mx_if_t p0]
        exact a1
    · rw [List.concat_eq_append] at *
      rw [List.length_append, List.length_singleton] at h120
      have m120 : m < 120 := by omega
      obtain ⟨d1, d2, d3⟩ := hd d (List.mem_append_right _ List.mem_cons_self)
      have hD := mx_dd_lt hgμ d1
      obtain ⟨k1, k2, k3⟩ := known d hD d2
      obtain ⟨w, w1, w2, w3, w4, w5⟩ := mx_pick1_s hgμ hs d1 d3
      have en := mx_nds_e hgμ hs d1 d3 w1
      have F := mx_mf_58 hp hm
      obtain ⟨g1, g2, g3, g4, g5, g6⟩ := mx_kf F hgμ hPμ
      have a5 : σ 37 5 = al := by rw [g5]; exact alμ
      have pk : (mx_wl σ (σ 37 5) d).find? (fun w => decide (mx_cw1 (σ 34) w = σ 34 d)) = some w := by
        rw [a5, g3, g6]
        refine Eq.trans (mx_find_eq _ fun x hx => ?_) w1
        obtain ⟨-, e1, e2⟩ := k3 x hx
        have : mx_cw1 (μ 34) x = mx_cw1 c x := by unfold mx_cw1 mx_sum; rw [e1, e2]
        rw [this, k2]
        rfl
      obtain ⟨σ1, b1, b2, b3⟩ := co_tellTheWay_s (n := n) dp d g1 g2 ((g4 d).mpr d1) (by rw [g6]; exact f0) (fun x hx => by
        rw [a5, g3] at hx
        have := (k3 x hx).1
        unfold mx_kn at this ⊢
        rw [g6]; exact this) pk
      have c1 : ∀ a x, (a, x) ∉ mx_P37 → σ1 a x = σ a x := fun a x q => b2 a x (by simp) q
      have c1' : ∀ a, a ≠ 37 → σ1 a = σ a := fun a q => funext fun x => c1 a x (by unfold mx_P37; simp only [List.mem_cons, List.not_mem_nil, or_false, Prod.mk.injEq]; omega)
      have m1 : mx_mf p μ σ1 := fun a x q1 q2 q3 q4 q5 => (c1 a x q5).trans (hm a x q1 q2 q3 q4 q5)
      have td : mx_tdw σ1 d w := by
        obtain ⟨x1, x2, x3, x4⟩ := b3
        refine ⟨x1, x2, fun q => ?_, fun q => ?_⟩
        · rw [x3 q, c1' 2 (by decide)]; omega
        · obtain ⟨y1, y2, y3⟩ := x4 q
          exact ⟨y1, y2, by rw [c1' 2 (by decide)]; exact y3⟩
      have hb : (w.2.1 = -1 ∧ (w.1 = 10 ∨ w.1 = 11)) ∨ w.2.1 ≠ -1 := by
        rcases mx_wl_by hgμ d1 w2 with q | ⟨e, e1, -⟩
        · exact Or.inl ⟨q.1, q.2.1⟩
        · exact Or.inr (fun z => by rw [z] at e1; exact absurd e1 (by omega))
      have ar := mx_ar_w hgμ d1 w2
      have kk : σ1 37 11 = w.1 ∧ σ1 37 13 = w.2.2.1 ∧ σ1 37 14 = w.2.2.2.1 := ⟨td.1.1, td.1.2.1, td.1.2.2.1⟩
      have st : σ (p + 3) T0.length = d := hT T0.length d (by rw [List.getElem?_append_right (Nat.le_refl _), Nat.sub_self]; rfl)
      have eh : am_w (((T0 ++ [d]).length : Nat) + (-1 : Int)) = (T0.length : Nat) := by
        rw [List.length_append, List.length_singleton, mx_w_id (by omega) (by omega)]; omega
      have e31 : σ1 p 3 = (m : Nat) := by rw [c1' p (by omega)]; exact h3
      have sk := mx_sk_app (μ := μ) (al := al) (c := c) T0 d
      have lenT := mx_sk_len hgμ hs T0 (fun x hx => ⟨(hd x (List.mem_append_left _ hx)).1, (hd x (List.mem_append_left _ hx)).2.2⟩)
      have vin : ∀ v, (v = w.2.2.1 ∨ v = w.2.2.2.1) → v ≠ -1 → ∃ j : Nat, v = j ∧ mx_dd μ j ∧ μ 34 j ≠ -1 ∧ c j ≤ 1000000000000 ∧ 1 ≤ (mx_nds μ al c v).length := fun v hv nv => by
        obtain ⟨j, j1, j2, j3, j4, j5⟩ := w5 v hv nv
        obtain ⟨w', t', ht⟩ := mx_nds_hd hgμ hs j2 (show c j ≤ 1000000000000 by omega)
        have kn : mx_kn μ v := by rcases hv with q | q <;> rw [q]; exact (k3 w w2).1.1; exact (k3 w w2).1.2
        rcases kn with q | q
        · exact absurd q nv
        · refine ⟨j, j1, j2, ?_, by omega, by rw [j1, ht, List.length_cons]; omega⟩
          rw [j1, Int.toNat_natCast] at q
          exact q
      have lw : (mx_nds μ al c d).length = 1 + (mx_nds μ al c w.2.2.1).length + (mx_nds μ al c w.2.2.2.1).length := by rw [en, List.length_cons, List.length_append]; omega
      have lall : (N ++ mx_sk μ al c (T0 ++ [d])).length = m + (1 + (mx_nds μ al c w.2.2.1).length + (mx_nds μ al c w.2.2.2.1).length) + (mx_sk μ al c T0).length := by
        rw [List.length_append, sk, List.length_append, lw, hN]; omega
      obtain ⟨r, hr⟩ : ∃ r : Nat, mx_ar w.1 = r ∧ r ≤ 2 := by
        rcases ar with q | q | q
        · exact ⟨0, q.1, by decide⟩
        · exact ⟨1, q.1, by decide⟩
        · exact ⟨2, q.1, by decide⟩
      have em : am_w (am_w (am_w (σ1 p 3 + 1) + am_w (((T0 ++ [d]).length : Nat) + (-1 : Int))) + mx_ar w.1) = ((m + 1 + T0.length + r : Nat) : Int) := by
        rw [eh, e31, hr.1, mx_w_nat (by omega), mx_w_id (z := ((m + 1 : Nat) : Int) + (T0.length : Nat)) (by omega) (by omega), mx_w_id (by omega) (by omega)]; omega
      have go : pl_make_20 (dp + 6) p ((T0 ++ [d]).length : Nat) σ n = if (120 : Int) < ((m + 1 + T0.length + r : Nat) : Int) then some (0, σ1, n) else (pl_note (dp + 6) p m σ1 n).bind fun q5 => am_ix ((p + 2 : Nat) : Int) (q5.2.1 p 3) (am_m (am_wr q5.2.1 (p + 2) (q5.2.1 p 3).toNat (q5.2.1 34 d)) fun σ1 => if mx_ar w.1 = 2 then (am_m (am_wr σ1 (p + 3) T0.length (σ1 37 14)) fun σ2 => pl_make_130 (dp + 6) p (am_w ((T0.length : Nat) + 1)) (mx_ar w.1) σ2 q5.2.2) else pl_make_130 (dp + 6) p (T0.length : Nat) (mx_ar w.1) σ1 q5.2.2) := by
        have h34 : ∀ x, am_ix 34 ((d : Nat) : Int) x = x := fun x => ix_34 (by omega) (by omega)
        rw [pl_make_20_e, mx_if_t p0, Int.toNat_natCast, if_pos (by rw [h3]; omega), if_pos (by rw [List.length_append, List.length_singleton]; omega), mx_if_t p0, fin2, eh, X3 _ _ (by omega), Int.toNat_natCast, Int.toNat_natCast, st, b1, Option.bind_some]
        dsimp only
        rw [if_neg (by decide), kk.1, pl_inputsOf_s, Option.bind_some, mx_if_t p0]
        dsimp only
        rw [eh] at em
        rw [em]
        by_cases z : (120 : Int) < ((m + 1 + T0.length + r : Nat) : Int)
        · rw [if_pos z, if_pos z]
        · rw [if_neg z, if_neg z, mx_if_t p0, mx_if_t p0, e31]
          simp only [mx_if_t p0, h34, fin1, Int.toNat_natCast, X3 T0.length _ (show T0.length < 120 by omega)]
      rw [go]
      clear go em
      by_cases z : (120 : Int) < ((m + 1 + T0.length + r : Nat) : Int)
      · rw [if_pos z]
        refine ⟨σ1, 0, rfl, m1, Or.inl ⟨rfl, ?_⟩⟩
        rw [lall]
        rcases ar with q | q | q
        · omega
        · obtain ⟨-, -, -, -, -, j1⟩ := vin _ (Or.inl rfl) q.2.1
          omega
        · obtain ⟨-, -, -, -, -, j1⟩ := vin _ (Or.inl rfl) q.2.1
          obtain ⟨-, -, -, -, -, j2⟩ := vin _ (Or.inr rfl) q.2.2
          omega
      · rw [if_neg z]
        have s64 : σ1 2 3 ≤ 64 := by rw [c1' 2 (by decide)]; exact g1.2.1
        obtain ⟨σ2, u1, u2, u3⟩ := pl_note_s (n := n) hp (dp + 4) m m120 td s64 hb
        have m2 : mx_mf p μ σ2 := fun a x q1 q2 q3 q4 q5 => (u2 a x (fun y => absurd y q2)).trans (m1 a x q1 q2 q3 q4 q5)
        have e32 : σ2 p 3 = (m : Nat) := (u2 p 3 (by omega)).trans e31
        rw [show pl_note (dp + 6) p m σ1 n = _ from u1, Option.bind_some]
        dsimp only
        rw [e32, X1 m _ m120, mx_m, Int.toNat_natCast]
        obtain ⟨σ3, hσ3⟩ : ∃ σ3, σ3 = am_wr σ2 (p + 2) m (σ2 34 d) := ⟨_, rfl⟩
        rw [← hσ3]
        have o3 : ∀ a x, (a = p + 2 → x ≠ m) → σ3 a x = σ2 a x := fun a x q => by
          rw [hσ3]
          unfold am_wr
          rw [if_neg (fun y => q y.1 y.2)]
        have m3 : mx_mf p μ σ3 := fun a x q1 q2 q3 q4 q5 => (o3 a x (fun y => absurd y q3)).trans (m2 a x q1 q2 q3 q4 q5)
        have kept : ∀ a x, a ≠ 37 → (a = p + 1 → x < 8 * m ∨ 8 * m + 8 ≤ x) → (a = p + 2 → x ≠ m) → σ3 a x = σ a x := fun a x q1 q2 q3 => by rw [o3 a x q3, u2 a x q2, c1' a q1]
        have own : mx_own σ1 d w = mx_own μ d w := by unfold mx_own; rw [c1' 6 (by decide), show σ 6 = μ 6 from funext fun j => hm 6 j (by omega) (by omega) (by omega) (by omega) (by unfold mx_P37; simp)]
        have hlf : mx_hlf σ1 w = mx_hlf μ w := by unfold mx_hlf; rw [c1' 5 (by decide), show σ 5 = μ 5 from funext fun j => hm 5 j (by omega) (by omega) (by omega) (by omega) (by unfold mx_P37; simp)]
        rw [own, hlf] at u3
        have new : mx_fn μ σ3 c p m (d, w) := by
          obtain ⟨v0, v1, v2, v3, v4, v5, v7⟩ := u3
          refine ⟨?_, ?_, ?_, ?_, ?_, ?_, ?_, ?_⟩
          · rw [o3 _ _ (by omega)]; exact v0
          · rw [o3 _ _ (by omega)]; exact v1
          · rw [o3 _ _ (by omega)]; exact v2
          · rw [o3 _ _ (by omega)]; exact v3
          · rw [o3 _ _ (by omega)]; exact v4
          · rw [o3 _ _ (by omega)]; exact v5
          · rw [o3 _ _ (by omega)]; exact v7
          · rw [hσ3, mx_wr_at, m2 34 d (by omega) (by omega) (by omega) (by omega) (by unfold mx_P37; simp)]
            exact k2
        have old : ∀ i x, N[i]? = some x → mx_fn μ σ3 c p i x := fun i x hx => by
          have hl := (List.getElem?_eq_some_iff.mp hx).1
          have := hw i x hx
          unfold mx_fn at this ⊢
          rw [kept (p + 1) (8 * i) (by omega) (by omega) (by omega), kept (p + 1) (8 * i + 1) (by omega) (by omega) (by omega), kept (p + 1) (8 * i + 2) (by omega) (by omega) (by omega), kept (p + 1) (8 * i + 3) (by omega) (by omega) (by omega), kept (p + 1) (8 * i + 4) (by omega) (by omega) (by omega), kept (p + 1) (8 * i + 5) (by omega) (by omega) (by omega), kept (p + 1) (8 * i + 7) (by omega) (by omega) (by omega), kept (p + 2) i (by omega) (by omega) (by omega)]
          exact this
        have all3 : ∀ i x, (N ++ [(d, w)])[i]? = some x → mx_fn μ σ3 c p i x := fun i x hx => by
          by_cases y : i < N.length
          · rw [List.getElem?_append_left y] at hx
            exact old i x hx
          · rw [List.getElem?_append_right (by omega)] at hx
            have : i = m := by
              have := (List.getElem?_eq_some_iff.mp hx).1
              rw [List.length_singleton] at this
              omega
            rw [this, hN, Nat.sub_self] at hx
            cases hx
            rw [this]
            exact new
        have stk3 : ∀ (j e : Nat), T0[j]? = some e → σ3 (p + 3) j = e := fun j e hj => by
          have hl := (List.getElem?_eq_some_iff.mp hj).1
          rw [kept (p + 3) j (by omega) (by omega) (by omega)]
          exact hT j e (by rw [List.getElem?_append_left hl]; exact hj)
        have t3 : σ3 37 13 = w.2.2.1 ∧ σ3 37 14 = w.2.2.2.1 := by
          refine ⟨?_, ?_⟩
          · rw [o3 37 13 (by omega), u2 37 13 (by omega)]; exact kk.2.1
          · rw [o3 37 14 (by omega), u2 37 14 (by omega)]; exact kk.2.2
        have e33 : σ3 p 3 = (m : Nat) := (o3 p 3 (by omega)).trans e32
        -- go on
        have next : ∀ (T' : List Nat) (σ6 : am_M), mx_mf p σ3 σ6 → (∀ a x, a ≠ p → a ≠ p + 3 → σ6 a x = σ3 a x) → σ6 p 3 = ((m + 1 : Nat) : Int) → T'.length = T0.length + r → (∀ (j e : Nat), T'[j]? = some e → σ6 (p + 3) j = e) → (∀ e ∈ T', mx_dd μ e ∧ μ 34 e ≠ -1 ∧ c e ≤ 1000000000000) → mx_sk μ al c T' = mx_nds μ al c w.2.2.1 ++ (mx_nds μ al c w.2.2.2.1 ++ mx_sk μ al c T0) →
            ∃ (σ' : am_M) (b : Int), pl_make_20 (dp + 6) p T'.length σ6 n = some (b, σ', n) ∧ mx_mf p μ σ' ∧ ((b = 0 ∧ 120 < (N ++ mx_sk μ al c (T0 ++ [d])).length) ∨ (b = 1 ∧ (N ++ mx_sk μ al c (T0 ++ [d])).length ≤ 120 ∧ σ' p 3 = ((N ++ mx_sk μ al c (T0 ++ [d])).length : Nat) ∧ ∀ i x, (N ++ mx_sk μ al c (T0 ++ [d]))[i]? = some x → mx_fn μ σ' c p i x ∧ σ' (p + 1) (8 * i + 6) = ((mx_nds μ al c x.1).length : Nat))) := fun T' σ6 h1 h2 h6 hl hst hdm hsk => by
          have same : N ++ mx_sk μ al c (T0 ++ [d]) = (N ++ [(d, w)]) ++ mx_sk μ al c T' := by
            rw [sk, en, hsk]
            simp only [List.append_assoc, List.cons_append, List.nil_append]
          rw [same] at hn ⊢
          exact ih (m + 1) T' (N ++ [(d, w)]) σ6 (by omega) (mx_mf_tr m3 h1) h6 (by rw [List.length_append, List.length_singleton, hN]) (by omega) hst hdm (fun i x hx => by
            have := all3 i x hx
            unfold mx_fn at this ⊢
            rw [h2 (p + 1) _ (by omega) (by omega), h2 (p + 1) _ (by omega) (by omega), h2 (p + 1) _ (by omega) (by omega), h2 (p + 1) _ (by omega) (by omega), h2 (p + 1) _ (by omega) (by omega), h2 (p + 1) _ (by omega) (by omega), h2 (p + 1) _ (by omega) (by omega), h2 (p + 2) _ (by omega) (by omega)]
            exact this) hn
        have hd0 : ∀ e ∈ T0, mx_dd μ e ∧ μ 34 e ≠ -1 ∧ c e ≤ 1000000000000 := fun e he => hd e (List.mem_append_left _ he)
        rcases ar with ⟨q0, q1, q2⟩ | ⟨q0, q1, q2⟩ | ⟨q0, q1, q2⟩
        · have r0 : r = 0 := by omega
          obtain ⟨σ6, hσ6⟩ : ∃ σ6, σ6 = am_wr σ3 p 3 ((m + 1 : Nat) : Int) := ⟨_, rfl⟩
          have o6 : ∀ a x, a ≠ p → σ6 a x = σ3 a x := fun a x q => by rw [hσ6, mx_wr_ne q]
          have := next T0 σ6 (fun a x y1 y2 y3 y4 y5 => o6 a x y1) (fun a x y1 y2 => o6 a x y1) (by rw [hσ6, mx_wr_at]) (by omega) (fun j e hj => by rw [o6 _ _ (by omega)]; exact stk3 j e hj) hd0 (by rw [q1, q2]; rfl)
          obtain ⟨σ', b, x1, x2⟩ := this
          refine ⟨σ', b, ?_, x2⟩
          rw [q0, if_neg (by decide), pl_make_130_e, if_neg (by decide), mx_if_t p0, mx_if_t p0, mx_m, Int.toNat_natCast, e33, mx_w_nat (by omega), ← hσ6]
          exact x1
        · have r0 : r = 1 := by omega
          obtain ⟨j1, v1, v2, v3, v4, v5⟩ := vin _ (Or.inl rfl) q1
          obtain ⟨σ5, hσ5⟩ : ∃ σ5, σ5 = am_wr σ3 (p + 3) T0.length w.2.2.1 := ⟨_, rfl⟩
          obtain ⟨σ6, hσ6⟩ : ∃ σ6, σ6 = am_wr σ5 p 3 ((m + 1 : Nat) : Int) := ⟨_, rfl⟩
          have o6 : ∀ a x, a ≠ p → (a = p + 3 → x ≠ T0.length) → σ6 a x = σ3 a x := fun a x q q' => by
            rw [hσ6, mx_wr_ne q, hσ5]
            unfold am_wr
            rw [if_neg (fun y => q' y.1 y.2)]
          have := next (T0 ++ [j1]) σ6 (fun a x y1 y2 y3 y4 y5 => o6 a x y1 (fun y => absurd y y4)) (fun a x y1 y2 => o6 a x y1 (fun y => absurd y y2)) (by rw [hσ6, mx_wr_at]) (by rw [List.length_append, List.length_singleton]; omega) (fun j e hj => by
            by_cases y : j < T0.length
            · rw [List.getElem?_append_left y] at hj
              rw [o6 _ _ (by omega) (by omega)]; exact stk3 j e hj
            · have hl := (List.getElem?_eq_some_iff.mp hj).1
              rw [List.length_append, List.length_singleton] at hl
              have : j = T0.length := by omega
              rw [List.getElem?_append_right (by omega), this, Nat.sub_self] at hj
              cases hj
              rw [this, hσ6, mx_wr_ne (by omega), hσ5, mx_wr_at]; exact v1) (fun e he => by
            rcases List.mem_append.mp he with y | y
            · exact hd0 e y
            · rw [List.mem_singleton.mp y]; exact ⟨v2, v3, v4⟩) (by rw [mx_sk_app, q2, v1]; rfl)
          obtain ⟨σ', b, x1, x2⟩ := this
          refine ⟨σ', b, ?_, x2⟩
          rw [List.length_append, List.length_singleton] at x1
          have e35 : σ5 p 3 = (m : Nat) := by rw [hσ5, mx_wr_ne (by omega)]; exact e33
          rw [q0, if_neg (by decide), pl_make_130_e, if_pos (by decide), mx_if_t p0, Int.toNat_natCast, fin2, X3 _ _ (by omega), mx_m, t3.1, Int.toNat_natCast, Int.toNat_natCast, ← hσ5, mx_if_t p0, mx_if_t p0, mx_m, e35, mx_w_nat (show (m : Int) < 1000 by omega), ← hσ6, mx_w_nat (show (T0.length : Int) < 1000 by omega)]
          exact x1
        · have r0 : r = 2 := by omega
          obtain ⟨j1, v1, v2, v3, v4, v5⟩ := vin _ (Or.inl rfl) q1
          obtain ⟨j2, y1, y2, y3, y4, y5⟩ := vin _ (Or.inr rfl) q2
          obtain ⟨σ4, hσ4⟩ : ∃ σ4, σ4 = am_wr σ3 (p + 3) T0.length w.2.2.2.1 := ⟨_, rfl⟩
          obtain ⟨σ5, hσ5⟩ : ∃ σ5, σ5 = am_wr σ4 (p + 3) (T0.length + 1) w.2.2.1 := ⟨_, rfl⟩
          obtain ⟨σ6, hσ6⟩ : ∃ σ6, σ6 = am_wr σ5 p 3 ((m + 1 : Nat) : Int) := ⟨_, rfl⟩
          have o6 : ∀ a x, a ≠ p → (a = p + 3 → x < T0.length) → σ6 a x = σ3 a x := fun a x q q' => by
            rw [hσ6, mx_wr_ne q, hσ5, hσ4]
            unfold am_wr
            rw [if_neg (fun y => by have := q' y.1; omega), if_neg (fun y => by have := q' y.1; omega)]
          have := next (T0 ++ [j2] ++ [j1]) σ6 (fun a x y1 y2 y3 y4 y5 => o6 a x y1 (fun y => absurd y y4)) (fun a x y1 y2 => o6 a x y1 (fun y => absurd y y2)) (by rw [hσ6, mx_wr_at]) (by rw [List.length_append, List.length_append, List.length_singleton, List.length_singleton]; omega) (fun j e hj => by
            by_cases y : j < T0.length
            · rw [List.append_assoc, List.getElem?_append_left y] at hj
              rw [o6 _ _ (by omega) (by omega)]; exact stk3 j e hj
            · have hl := (List.getElem?_eq_some_iff.mp hj).1
              rw [List.length_append, List.length_append, List.length_singleton, List.length_singleton] at hl
              have : j = T0.length ∨ j = T0.length + 1 := by omega
              rcases this with z | z
              · rw [List.append_assoc, List.getElem?_append_right (by omega), z, Nat.sub_self] at hj
                cases hj
                rw [z, hσ6, mx_wr_ne (by omega), hσ5, mx_wr_off (by omega), hσ4, mx_wr_at]; exact y1
              · rw [List.append_assoc, List.getElem?_append_right (by omega), z, Nat.add_sub_cancel_left] at hj
                cases hj
                rw [z, hσ6, mx_wr_ne (by omega), hσ5, mx_wr_at]; exact v1) (fun e he => by
            rcases List.mem_append.mp he with y | y
            · rcases List.mem_append.mp y with z | z
              · exact hd0 e z
              · rw [List.mem_singleton.mp z]; exact ⟨y2, y3, y4⟩
            · rw [List.mem_singleton.mp y]; exact ⟨v2, v3, v4⟩) (by rw [mx_sk_app, mx_sk_app, v1, y1])
          obtain ⟨σ', b, x1, x2⟩ := this
          refine ⟨σ', b, ?_, x2⟩
          rw [List.length_append, List.length_append, List.length_singleton, List.length_singleton] at x1
          have e35 : σ5 p 3 = (m : Nat) := by rw [hσ5, mx_wr_ne (by omega), hσ4, mx_wr_ne (by omega)]; exact e33
          have t4 : σ4 37 13 = w.2.2.1 := by rw [hσ4, mx_wr_ne (by omega)]; exact t3.1
          rw [q0, if_pos rfl, mx_m, t3.2, ← hσ4, mx_w_nat (show (T0.length : Int) < 1000 by omega), pl_make_130_e, if_pos (by decide), mx_if_t p0, Int.toNat_natCast, fin2, X3 _ _ (by omega), mx_m, t4, Int.toNat_natCast, Int.toNat_natCast, ← hσ5, mx_if_t p0, mx_if_t p0, mx_m, e35, mx_w_nat (show (m : Int) < 1000 by omega), ← hσ6, mx_w_nat (show ((T0.length + 1 : Nat) : Int) < 1000 by omega)]
          exact x1
/-- make() -/
theorem pl_make_s (hq : mx_pq t σ₀ μ al c) {p : Nat} (hp : p = 58 ∨ p = 62) (dp D : Nat) (hd : mx_dd μ D) (hk : μ 34 D ≠ -1) (hc : c D ≤ 1000000000000) :
    ∃ (σ' : am_M) (b : Int), pl_make (dp + 7) p D μ n = some (b, σ', n) ∧ mx_mf p μ σ' ∧ ((b = 0 ∧ 120 < (mx_nds μ al c D).length) ∨ (b = 1 ∧ (mx_nds μ al c D).length ≤ 120 ∧ σ' p 3 = ((mx_nds μ al c D).length : Nat) ∧ ∀ i x, (mx_nds μ al c D)[i]? = some x → mx_fn μ σ' c p i x ∧ σ' (p + 1) (8 * i + 6) = ((mx_nds μ al c x.1).length : Nat))) := by
  have p0 : ¬ (p : Int) < 0 := by omega
  obtain ⟨fin2, X3⟩ := mx_finP2 hp
  obtain ⟨σ1, hσ1⟩ : ∃ σ1, σ1 = am_wr (am_wr μ (p + 3) 0 D) p 3 0 := ⟨_, rfl⟩
  have sk : [] ++ mx_sk μ al c [D] = mx_nds μ al c D := by
    have := mx_sk_app (μ := μ) (al := al) (c := c) [] D
    rw [List.nil_append] at this ⊢
    rw [this]
    exact List.append_nil _
  have m1 : mx_mf p μ σ1 := fun a x q1 q2 q3 q4 q5 => by rw [hσ1, mx_wr_ne q1, mx_wr_ne q4]
  obtain ⟨σ', b, a1, a2, a3⟩ := pl_make_20_s (n := n) hq hp dp 120 0 [D] [] σ1 (by decide) m1 (by rw [hσ1, mx_wr_at]; rfl) rfl (by simp) (fun j d hj => by
    cases j with
    | zero =>
      cases hj
      rw [hσ1, mx_wr_ne (by omega), mx_wr_at]
    | succ j => cases hj) (fun d hd' => by rw [List.mem_singleton.mp hd']; exact ⟨hd, hk, hc⟩) (fun i x hx => by cases hx) (by
    rw [sk]
    exact mx_nds_np hq.1.2.2.1 hq.2 (c D).toNat D (by omega) hd hc)
  rw [sk] at a3
  refine ⟨σ', b, ?_, a2, a3⟩
  rw [pl_make_e, mx_if_t p0, Int.toNat_natCast, fin2, show am_ix ((p + 3 : Nat) : Int) 0 _ = _ from X3 0 _ (by decide), mx_m, mx_if_t p0, mx_m, Int.toNat_natCast]
  rw [← hσ1]
  exact a1
end
