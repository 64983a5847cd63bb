section
variable {n : Nat} {μ : am_M}
/-- what ways of the reference are told from -/
def mx_rW (μ σ : am_M) : Prop := mx_rl μ σ ∧ ∀ i : Nat, (i : Int) < μ 2 9 → μ 10 i = i → σ 104 i = mx_cR μ i ∧ σ 105 i = μ 11 i
theorem mx_rW_fr {σ σ' : am_M} (h : mx_rW μ σ) (hF : mx_Fq mx_Cw [(82, 35)] σ σ') : mx_rW μ σ' := by
  have c : ∀ i, i ≤ 108 → i ≠ 82 → σ' i = σ i := fun i a b => funext fun j => hF i j (by simp only [List.mem_cons, List.not_mem_nil, or_false, not_or]; omega) (by simp only [List.mem_cons, List.not_mem_nil, or_false, Prod.mk.injEq]; omega)
  refine ⟨mx_rl_fr h.1 (fun i j a b => by rw [c i (by omega) (by omega)]) (fun j hj => hF 82 j (by decide) (by simp only [List.mem_cons, List.not_mem_nil, or_false, Prod.mk.injEq]; omega)), ?_⟩
  rw [c 104 (by decide) (by decide), c 105 (by decide) (by decide)]
  exact h.2
theorem mx_al_fr {σ σ' : am_M} (hF : mx_Fq mx_Cw [(82, 35)] σ σ') : σ' 82 4 = σ 82 4 := hF 82 4 (by decide) (by decide)
theorem mo_wb_269 (hg : mx_gd μ) (d e : Nat) (o p c last K i pl : Int) (x : Nat) (y : Int) (r : Int) (σ : am_M) (W : List mx_wt) (h : mx_rW μ σ) (hr : 0 ≤ r ∧ r ≤ 1000000) (hc : 0 ≤ c ∧ c ≤ 3) (ho : -1 ≤ o ∧ o ≤ 3) (hp : -1 ≤ pl ∧ pl ≤ 4)
    (hx : (x : Int) < μ 2 9 ∧ μ 10 x = x) (hy : (y = -1 ∧ (K = 8 ∨ K = 9)) ∨ ((0 ≤ y ∧ y < μ 2 9 ∧ μ 10 y.toNat = y) ∧ (K = 4 ∨ K = 5 ∨ K = 6))) (hW : mx_LW σ W) (hL : W.length < 390) :
    ∃ σ' : am_M, mo_waysBy_269 (d + 10) e o p r c x y last K i pl σ n = mo_waysBy_195 (d + 10) e o p r c x y last K (am_w (i + 1)) σ' n ∧ mx_Fq mx_Cw [(82, 35)] σ σ' ∧
      mx_LW σ' (W ++ if mx_alw (σ 82 4) K = true then [(K, (e : Int), mx_dm x (if K = 5 ∨ K = 9 then c else if K = 6 then o else -1) pl, (if y = -1 then -1 else mx_dm y (if K = 5 ∨ K = 9 then c else -1) pl), pl, mx_pr K (mx_cR μ x) (if y < 0 then 0 else mx_cR μ y.toNat) r)] else []) := by
  have h64 := hg.2.1
  have w2 := hg.1.2.1
  have hK : K = 4 ∨ K = 5 ∨ K = 6 ∨ K = 8 ∨ K = 9 := by rcases hy with ⟨-, q⟩ | ⟨-, q⟩ <;> omega
  have e1 : mo_waysBy_269 (d + 10) e o p r c x y last K i pl σ n = mo_waysBy_299 (d + 10) e o p r c x y last K i pl (if K = 5 ∨ K = 9 then c else if K = 6 then o else -1) σ n := by
    rw [mo_waysBy_269_e]
    rcases hK with q | q | q | q | q <;> subst q <;> rfl
  have ob : -1 ≤ (if K = 5 ∨ K = 9 then c else if K = 6 then o else -1) ∧ (if K = 5 ∨ K = 9 then c else if K = 6 then o else -1) ≤ 3 := by
    (repeat' split) <;> omega
  obtain ⟨oo, hoo⟩ : ∃ oo, oo = (if K = 5 ∨ K = 9 then c else if K = 6 then o else -1) := ⟨_, rfl⟩
  rw [← hoo] at ob e1 ⊢
  have rx := mx_cR_b hg x
  have X1 := (h.2 x hx.1 hx.2).1
  have I : (0 : Int) ≤ (x : Int) ∧ (x : Int) < 144 := ⟨by omega, by omega⟩
  have I2 : (0 : Int) ≤ (x : Int) ∧ (x : Int) < 1000 := ⟨by omega, by omega⟩
  have Kb : 0 ≤ K ∧ K ≤ 11 := by omega
  have z0 : (0 : Int) ≤ 0 ∧ (0 : Int) ≤ 1000000 := by decide
  rw [e1, mo_waysBy_299_e, mo_demand_s _ _ _ _ _ _ I2 ob hp, Option.bind_some]
  dsimp only
  rw [ix_104 I.1 I.2, Int.toNat_natCast, X1]
  rcases hy with ⟨y1, y2⟩ | ⟨⟨y1, y2, y3⟩, y4⟩
  · subst y1
    obtain ⟨σ', p1, p2, p3⟩ := mo_way_s (n := n) d K e ((x : Int) * 30 + (oo + 1) * 6 + pl + 1) (-1) pl (mx_cR μ x) 0 r σ W Kb rx z0 hr hW hL
    refine ⟨σ', ?_, p2, p3⟩
    rw [if_pos rfl, p1, Option.bind_some]
  · have ny : ¬ (y = -1) := by omega
    have ny0 : ¬ (y < 0) := by omega
    have Iy : (0 : Int) ≤ y ∧ y < 144 := ⟨y1, by omega⟩
    have Iy2 : (0 : Int) ≤ y ∧ y < 1000 := ⟨y1, by omega⟩
    have ry := mx_cR_b hg y.toNat
    have Y1 := (h.2 y.toNat (by omega) (by omega)).1
    have ob2 : -1 ≤ (if K = 5 ∨ K = 9 then c else -1) ∧ (if K = 5 ∨ K = 9 then c else -1) ≤ 3 := by split <;> omega
    obtain ⟨σ', p1, p2, p3⟩ := mo_way_s (n := n) d K e ((x : Int) * 30 + (oo + 1) * 6 + pl + 1) (y * 30 + ((if K = 5 ∨ K = 9 then c else -1) + 1) * 6 + pl + 1) pl (mx_cR μ x) (mx_cR μ y.toNat) r σ W Kb rx ry hr hW hL
    refine ⟨σ', ?_, p2, ?_⟩
    · have e2 : (if K = 5 then mo_waysBy_368 (d + 10) e o p r c x y last K i pl K e ((x : Int) * 30 + (oo + 1) * 6 + pl + 1) y c σ n else mo_waysBy_368 (d + 10) e o p r c x y last K i pl K e ((x : Int) * 30 + (oo + 1) * 6 + pl + 1) y (-1) σ n) = mo_waysBy_368 (d + 10) e o p r c x y last K i pl K e ((x : Int) * 30 + (oo + 1) * 6 + pl + 1) y (if K = 5 ∨ K = 9 then c else -1) σ n := by
        rcases y4 with q | q | q <;> subst q <;> rfl
      rw [if_neg ny, Option.bind_some]
      dsimp only
      rw [e2, mo_waysBy_368_e, mo_demand_s _ _ _ _ _ _ Iy2 ob2 hp, Option.bind_some, ix_104 I.1 I.2, ix_104 Iy.1 Iy.2]
      dsimp only
      rw [Int.toNat_natCast, X1, Y1, p1, Option.bind_some]
    · rw [if_neg ny, if_neg ny0]
      exact p3
theorem mx_mt_c (b : Bool) {α : Type} {x y : α} : (if mx_b b = 0 then x else y) = if b = true then y else x := by cases b <;> rfl
/-- one slot -/
theorem mo_wb_slot (hg : mx_gd μ) (d e : Nat) (he : (e : Int) < μ 2 3) (hH : μ 9 e ≠ -1) (h4 : 4 ≤ μ 5 e) (o p : Int) (ho : -1 ≤ o ∧ o ≤ 3) (s : Nat) (hs : s < mx_slots (μ 5 e)) (x : Nat) (hx : μ 7 e = x ∧ (x : Int) < μ 2 9 ∧ μ 10 x = x)
    (hy : (μ 8 e = -1 ∧ μ 5 e = 4) ∨ ((0 ≤ μ 8 e ∧ μ 8 e < μ 2 9 ∧ μ 10 (μ 8 e).toNat = μ 8 e) ∧ (μ 5 e = 5 ∨ μ 5 e = 6))) (last : Int) (σ : am_M) (W : List mx_wt) (h : mx_rW μ σ) (hW : mx_LW σ W) (hL : W.length < 390) :
    ∃ σ' : am_M, mo_waysBy_195 (d + 10) e o p (mx_cR μ (μ 9 e).toNat) (μ 6 e) x (μ 8 e) last (mx_first (μ 5 e) + (s / 2 : Nat)) (s % 2 : Nat) σ n = mo_waysBy_195 (d + 10) e o p (mx_cR μ (μ 9 e).toNat) (μ 6 e) x (μ 8 e) last (mx_first (μ 5 e) + (s / 2 : Nat)) (s % 2 + 1 : Nat) σ' n ∧ mx_Fq mx_Cw [(82, 35)] σ σ' ∧
      mx_LW σ' (W ++ match mx_sl μ (σ 82 4) o p e s with | some w => [w] | none => []) := by
  have ke := hg.1.2.2.2.1 e he
  have kd := mx_kd_n ke.1
  have hc : 0 ≤ μ 6 e ∧ μ 6 e ≤ 3 := by have := ke.2.1; have := ke.2.2.2.1 h4; omega
  have i2 : ((s % 2 : Nat) : Int) < 2 := by omega
  have w1k : ((s % 2 : Nat) : Int) < 1000 := by omega
  obtain ⟨K, hK⟩ : ∃ K : Int, K = mx_first (μ 5 e) + (s / 2 : Nat) := ⟨_, rfl⟩
  have hy2 : (μ 8 e = -1 ∧ (K = 8 ∨ K = 9)) ∨ ((0 ≤ μ 8 e ∧ μ 8 e < μ 2 9 ∧ μ 10 (μ 8 e).toNat = μ 8 e) ∧ (K = 4 ∨ K = 5 ∨ K = 6)) := by
    rcases hy with ⟨q1, q2⟩ | ⟨q1, q2⟩
    · refine Or.inl ⟨q1, ?_⟩
      rw [q2] at hs hK
      have : s < 4 := hs
      have : K = 8 + (s / 2 : Nat) := hK
      omega
    · refine Or.inr ⟨q1, ?_⟩
      have a : mx_slots (μ 5 e) = 6 ∧ mx_first (μ 5 e) = 4 := by rcases q2 with q | q <;> rw [q] <;> decide
      rw [a.1] at hs
      rw [a.2] at hK
      omega
  have hK5 : K = 4 ∨ K = 5 ∨ K = 6 ∨ K = 8 ∨ K = 9 := by rcases hy2 with ⟨-, q⟩ | ⟨-, q⟩ <;> omega
  obtain ⟨pl, hpl⟩ : ∃ pl : Int, pl = (if s % 2 = 0 then μ 6 e else 4) := ⟨_, rfl⟩
  have hpb : -1 ≤ pl ∧ pl ≤ 4 := by rw [hpl]; split <;> omega
  have e0 : mo_waysBy_195 (d + 10) e o p (mx_cR μ (μ 9 e).toNat) (μ 6 e) x (μ 8 e) last K (s % 2 : Nat) σ n = mo_waysBy_212 (d + 10) e o p (mx_cR μ (μ 9 e).toNat) (μ 6 e) x (μ 8 e) last K (s % 2 : Nat) pl σ n := by
    rw [mo_waysBy_195_e, if_pos i2, hpl]
    by_cases q : s % 2 = 0
    · rw [if_pos (by omega), if_pos q]
    · rw [if_neg (by omega), if_neg q]
  have k1 : ¬ (μ 5 e = 1) := by omega
  have k3 : ¬ (μ 5 e = 3) := by omega
  have sl : mx_sl μ (σ 82 4) o p e s = (if (mx_alw (σ 82 4) K && mx_mt pl p && (!decide (K = 4 ∨ K = 8) || decide (o = -1)) && (!decide (K = 5 ∨ K = 9) || mx_mt (μ 6 e) o)) = true then
    some (K, (e : Int), mx_dm x (if K = 5 ∨ K = 9 then μ 6 e else o) pl, (if μ 8 e = -1 then -1 else mx_dm (μ 8 e) (if K = 5 ∨ K = 9 then μ 6 e else -1) pl), pl, mx_pe μ e (s / 2)) else none) := by
    unfold mx_sl
    rw [if_neg k1, if_neg k3, ← hK, ← hpl, hx.1]
  have pe : mx_pe μ e (s / 2) = mx_pr K (mx_cR μ x) (if μ 8 e < 0 then 0 else mx_cR μ (μ 8 e).toNat) (mx_cR μ (μ 9 e).toNat) := by
    unfold mx_pe
    rw [← hK, if_neg k1, hx.1, Int.toNat_natCast]
  have z0 : ∀ {σ' : am_M}, mx_sl μ (σ 82 4) o p e s = none → mx_LW σ' W → mx_LW σ' (W ++ match mx_sl μ (σ 82 4) o p e s with | some w => [w] | none => []) := fun a b => by
    rw [a, List.append_nil]; exact b
  rw [← hK, e0, mo_waysBy_212_e, mo_meets_s, Option.bind_some, mx_w_nat w1k]
  dsimp only
  rw [show decide (p = -1 ∨ p = pl) = mx_mt pl p from rfl, mx_mt_c]
  cases m1 : mx_mt pl p with
  | false =>
    refine ⟨σ, by rw [if_neg (by decide)], mx_fq_rf, z0 ?_ hW⟩
    rw [sl, m1, Bool.and_false, Bool.false_and, Bool.false_and]; rfl
  | true =>
    rw [if_pos rfl]
    have e3 : (if K = 4 then (if o = -1 then mo_waysBy_244 (d + 10) e o p (mx_cR μ (μ 9 e).toNat) (μ 6 e) x (μ 8 e) last K (s % 2 : Nat) pl σ n else mo_waysBy_195 (d + 10) e o p (mx_cR μ (μ 9 e).toNat) (μ 6 e) x (μ 8 e) last K ((s % 2 + 1 : Nat) : Int) σ n) else if K = 8 then (if o = -1 then mo_waysBy_244 (d + 10) e o p (mx_cR μ (μ 9 e).toNat) (μ 6 e) x (μ 8 e) last K (s % 2 : Nat) pl σ n else mo_waysBy_195 (d + 10) e o p (mx_cR μ (μ 9 e).toNat) (μ 6 e) x (μ 8 e) last K ((s % 2 + 1 : Nat) : Int) σ n) else mo_waysBy_244 (d + 10) e o p (mx_cR μ (μ 9 e).toNat) (μ 6 e) x (μ 8 e) last K (s % 2 : Nat) pl σ n) =
        if (!decide (K = 4 ∨ K = 8) || decide (o = -1)) = true then mo_waysBy_244 (d + 10) e o p (mx_cR μ (μ 9 e).toNat) (μ 6 e) x (μ 8 e) last K (s % 2 : Nat) pl σ n else mo_waysBy_195 (d + 10) e o p (mx_cR μ (μ 9 e).toNat) (μ 6 e) x (μ 8 e) last K ((s % 2 + 1 : Nat) : Int) σ n := by
      by_cases q : o = -1
      · rw [decide_eq_true q, Bool.or_true, if_pos rfl, if_pos q]
        (repeat' split) <;> rfl
      · rw [decide_eq_false q, Bool.or_false, if_neg q]
        rcases hK5 with r | r | r | r | r <;> rw [r] <;> rfl
    rw [e3]
    cases m2 : (!decide (K = 4 ∨ K = 8) || decide (o = -1)) with
    | false =>
      refine ⟨σ, by rw [if_neg (by decide)], mx_fq_rf, z0 ?_ hW⟩
      rw [sl, m2, Bool.and_false, Bool.false_and]; rfl
    | true =>
      rw [if_pos rfl, mo_waysBy_244_e, mo_meets_s, Option.bind_some, mx_w_nat w1k]
      dsimp only
      rw [show decide (o = -1 ∨ o = μ 6 e) = mx_mt (μ 6 e) o from rfl, mx_mt_c]
      have e4 : (if K = 5 then (if mx_mt (μ 6 e) o = true then mo_waysBy_269 (d + 10) e o p (mx_cR μ (μ 9 e).toNat) (μ 6 e) x (μ 8 e) last K (s % 2 : Nat) pl σ n else mo_waysBy_195 (d + 10) e o p (mx_cR μ (μ 9 e).toNat) (μ 6 e) x (μ 8 e) last K ((s % 2 + 1 : Nat) : Int) σ n) else if K = 9 then (if mx_mt (μ 6 e) o = true then mo_waysBy_269 (d + 10) e o p (mx_cR μ (μ 9 e).toNat) (μ 6 e) x (μ 8 e) last K (s % 2 : Nat) pl σ n else mo_waysBy_195 (d + 10) e o p (mx_cR μ (μ 9 e).toNat) (μ 6 e) x (μ 8 e) last K ((s % 2 + 1 : Nat) : Int) σ n) else mo_waysBy_269 (d + 10) e o p (mx_cR μ (μ 9 e).toNat) (μ 6 e) x (μ 8 e) last K (s % 2 : Nat) pl σ n) =
          if (!decide (K = 5 ∨ K = 9) || mx_mt (μ 6 e) o) = true then mo_waysBy_269 (d + 10) e o p (mx_cR μ (μ 9 e).toNat) (μ 6 e) x (μ 8 e) last K (s % 2 : Nat) pl σ n else mo_waysBy_195 (d + 10) e o p (mx_cR μ (μ 9 e).toNat) (μ 6 e) x (μ 8 e) last K ((s % 2 + 1 : Nat) : Int) σ n := by
        cases mx_mt (μ 6 e) o with
        | true =>
          rw [Bool.or_true]
          simp only [↓reduceIte]
          (repeat' split) <;> rfl
        | false =>
          rw [Bool.or_false]
          rcases hK5 with r | r | r | r | r <;> rw [r] <;> rfl
      rw [e4]
      cases m3 : (!decide (K = 5 ∨ K = 9) || mx_mt (μ 6 e) o) with
      | false =>
        refine ⟨σ, by rw [if_neg (by decide)], mx_fq_rf, z0 ?_ hW⟩
        rw [sl, m3, Bool.and_false]; rfl
      | true =>
        obtain ⟨σ', p1, p2, p3⟩ := mo_wb_269 (n := n) hg d e o p (μ 6 e) last K (s % 2 : Nat) pl x (μ 8 e) (mx_cR μ (μ 9 e).toNat) σ W h (mx_cR_b hg _) hc ho hpb hx.2 hy2 hW hL
        refine ⟨σ', by rw [if_pos rfl, p1, mx_w_nat w1k], p2, ?_⟩
        have eo : (if K = 5 ∨ K = 9 then μ 6 e else if K = 6 then o else -1) = (if K = 5 ∨ K = 9 then μ 6 e else o) := by
          by_cases q : K = 5 ∨ K = 9
          · rw [if_pos q, if_pos q]
          · rw [if_neg q, if_neg q]
            by_cases q6 : K = 6
            · rw [if_pos q6]
            · rw [if_neg q6]
              have k48 : K = 4 ∨ K = 8 := by omega
              rw [decide_eq_true k48] at m2
              exact (of_decide_eq_true m2).symm
        rw [eo, ← pe] at p3
        rw [sl, m1, m2, m3, Bool.and_true, Bool.and_true, Bool.and_true]
        cases a1 : mx_alw (σ 82 4) K with
        | true => rw [a1] at p3; exact p3
        | false => rw [a1] at p3; exact p3
end
