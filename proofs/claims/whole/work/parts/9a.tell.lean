/-! PLANS: the way that is picked -/
section
variable {n : Nat} {σ : am_M}
/-- the way that advance() has told -/
def mx_told (σ σ' : am_M) (d : Nat) (w : mx_wt) : Prop := mx_tl5 w σ' ∧ (σ' 37 6 = (d / 30 : Nat) ∧ σ' 37 7 = ((d % 30 / 6 : Nat) : Int) - 1 ∧ σ' 37 8 = ((d % 6 : Nat) : Int) - 1) ∧ (w.2.1 = -1 → σ' 37 9 = σ 2 3) ∧ (w.2.1 ≠ -1 → σ' 37 9 = w.2.1 ∧ 0 ≤ w.2.1 ∧ w.2.1 < σ 2 3)
theorem co_tellTheWay_10_s (dp d : Nat) (hd : d < 1920) (w : mx_wt) : ∀ (R : List mx_wt) (M i : Nat) (σ : am_M), i + R.length < 1000 → M < 900 → mx_gd σ → mx_Pv σ → mx_dd σ d → mx_ws σ d R M → mx_f0 (σ 34) → (∀ w ∈ R, mx_wok σ w ∧ mx_kn σ w.2.2.1 ∧ mx_kn σ w.2.2.2.1) → R.find? (fun w => decide (mx_cw1 (σ 34) w = σ 34 d)) = some w →
    ∃ σ' : am_M, co_tellTheWay_10 (dp + 5) d i σ n = some (1, σ', n) ∧ mx_Fq [] mx_P37 σ σ' ∧ mx_told σ σ' d w := by
  have D : (0 : Int) ≤ (d : Int) ∧ (d : Int) < 1920 := ⟨by omega, by omega⟩
  intro R
  induction R with
  | nil => intro M i σ hi hM hg hP hdd hw hf hk hx; cases hx
  | cons v R ih =>
    intro M i σ hi hM hg hP hdd hw hf hk hx
    have i1k : (i : Int) < 1000 := by rw [List.length_cons] at hi; omega
    rcases wa_advance_s (n := n) hg hP hd hdd hM hw dp with ⟨q, -⟩ | ⟨w', R', σ1, M', q, p1, p2, p3, p4, p5, p6, p7⟩
    · cases q
    · cases q
      have c34 : σ1 34 = σ 34 := funext fun j => p2 34 j (by simp) (by unfold mx_P37; simp)
      have c2 : σ1 2 = σ 2 := funext fun j => p2 2 j (by simp) (by unfold mx_P37; simp)
      obtain ⟨g1, g2, g3⟩ := mx_gdP_fr p2 hg hP hdd
      have dd1 := (mx_cf (mx_P37_38 p2) hg hP).2.2.2.1
      have vk : ∀ v, mx_vk σ v → mx_vk σ1 v := fun v h => by
        rcases h with h | ⟨j, h1, h2, h3⟩
        · exact Or.inl h
        · exact Or.inr ⟨j, h1, h2, (dd1 j).mpr h3⟩
      have kn : ∀ v, mx_kn σ v → mx_kn σ1 v := fun v h => by unfold mx_kn at h ⊢; rw [c34]; exact h
      obtain ⟨⟨o1, o2, o3⟩, k1, k2⟩ := hk v List.mem_cons_self
      have cw := co_costOfWay_s (n := n) (dp + 3) p5 ⟨vk _ o1, vk _ o2, o3⟩ (kn _ k1) (kn _ k2) (by rw [c34]; exact hf)
      have step : co_tellTheWay_10 (dp + 5) d i σ n = if am_cmp (mx_cw1 (σ 34) v) (σ 34 d) = 0 then some (1, σ1, n) else co_tellTheWay_10 (dp + 5) d ((i + 1 : Nat) : Int) σ1 n := by
        rw [co_tellTheWay_10_e, if_pos i1k, p1, Option.bind_some]
        dsimp only
        rw [if_neg (by decide), show co_costOfWay (dp + 5) σ1 n = _ from cw, Option.bind_some, ix_34 D.1 D.2, mx_w_nat i1k]
        dsimp only
        simp only [Int.toNat_natCast, c34]
      rw [List.find?_cons] at hx
      by_cases z : mx_cw1 (σ 34) v = σ 34 d
      · rw [decide_eq_true z] at hx
        cases hx
        refine ⟨σ1, by rw [step, if_pos (mx_cmpE.mpr z)], p2, p5, ⟨p3.1, p3.2.1, p3.2.2.1⟩, p6, fun y => ⟨(p7 y).1, (p7 y).2.1, (p7 y).2.2.1⟩⟩
      · rw [decide_eq_false z] at hx
        obtain ⟨σ', e1, e2, e3⟩ := ih M' (i + 1) σ1 (by rw [List.length_cons] at hi; omega) (by omega) g1 g2 g3 p3 (by rw [c34]; exact hf) (fun x hx => by
          obtain ⟨⟨x1, x2, x3⟩, x4, x5⟩ := hk x (List.mem_cons_of_mem _ hx)
          exact ⟨⟨vk _ x1, vk _ x2, x3⟩, kn _ x4, kn _ x5⟩) (by rw [c34]; exact hx)
        refine ⟨σ', by rw [step, if_neg (fun a => z (mx_cmpE.mp a))]; exact e1, mx_fq_tr p2 e2, e3.1, e3.2.1, ?_, ?_⟩
        · rw [← c2]; exact e3.2.2.1
        · rw [← c2]; exact e3.2.2.2
/-- tellTheWay() -/
theorem co_tellTheWay_s (dp d : Nat) (hg : mx_gd σ) (hP : mx_Pv σ) (hdd : mx_dd σ d) (hf : mx_f0 (σ 34)) (hk : ∀ w ∈ mx_wl σ (σ 37 5) d, mx_kn σ w.2.2.1 ∧ mx_kn σ w.2.2.2.1) {w : mx_wt} (hx : (mx_wl σ (σ 37 5) d).find? (fun w => decide (mx_cw1 (σ 34) w = σ 34 d)) = some w) :
    ∃ σ' : am_M, co_tellTheWay (dp + 6) d σ n = some (1, σ', n) ∧ mx_Fq [] mx_P37 σ σ' ∧ mx_told σ σ' d w := by
  have hd := mx_dd_lt hg hdd
  obtain ⟨σ1, M, a1, a2, a3, a4⟩ := wa_beginAll_s (n := n) hg hd hdd (dp + 2)
  obtain ⟨g1, g2, g3⟩ := mx_gdP_fr a2 hg hP hdd
  have c34 : σ1 34 = σ 34 := funext fun j => a2 34 j (by simp) (by unfold mx_P37; simp)
  have c2 : σ1 2 = σ 2 := funext fun j => a2 2 j (by simp) (by unfold mx_P37; simp)
  have len := mx_wl_len hg (σ 37 5) d
  have W1 := (mx_cf (mx_P37_38 a2) hg hP).2.2.1
  obtain ⟨σ', b1, b2, b3⟩ := co_tellTheWay_10_s (n := n) dp d hd w _ M 0 σ1 (by omega) a3 g1 g2 g3 a4 (by rw [c34]; exact hf) (fun w hw => ⟨mx_wl_ok g1 g3 (al := σ 37 5) (by rw [W1]; exact hw), by
    have := hk w hw
    unfold mx_kn at this ⊢
    rw [c34]; exact this⟩) (by rw [c34]; exact hx)
  refine ⟨σ', ?_, mx_fq_tr a2 b2, b3.1, b3.2.1, ?_, ?_⟩
  · rw [co_tellTheWay_e, show wa_beginAll (dp + 5) d σ n = _ from a1, Option.bind_some]
    exact b1
  · rw [← c2]; exact b3.2.2.1
  · rw [← c2]; exact b3.2.2.2
/-- there is a way that costs what the demand costs -/
theorem mx_pick_ex {t : Nat} {σ σ1 : am_M} {al : Int} {c : Nat → Int} (h : mx_pq t σ σ1 al c) {d : Nat} (hd : d < 1920) (hk : σ1 34 d ≠ -1) (hc : c d ≤ 1000000000000) : ∃ w ∈ mx_wl σ1 al d, (mx_wl σ1 al d).find? (fun w => decide (mx_cw1 (σ1 34) w = σ1 34 d)) = some w ∧ mx_sum c w = c d := by
  obtain ⟨-, fk⟩ := mx_pq_f0 h
  obtain ⟨y1, y2, y3⟩ := fk d hd hk
  have eqs : ∀ w ∈ mx_wl σ1 al d, mx_cw1 (σ1 34) w = am_mn (mx_sum c w) 1000000000001 := fun w hw => by
    unfold mx_cw1 mx_sum
    rw [(y3 w hw).2.1, (y3 w hw).2.2]
  rcases (h.2 d y1).2.2 with q | ⟨w, w1, w2⟩
  · omega
  · cases hx : (mx_wl σ1 al d).find? (fun w => decide (mx_cw1 (σ1 34) w = σ1 34 d)) with
    | none =>
      have := List.find?_eq_none.mp hx w w1
      refine absurd (decide_eq_true ?_) this
      rw [eqs w w1, y2, w2]
      unfold am_mn
      rw [if_neg (by omega)]
    | some v =>
      have v1 := List.mem_of_find?_eq_some hx
      have v2 : mx_cw1 (σ1 34) v = σ1 34 d := by
        have := List.find?_some hx
        exact of_decide_eq_true this
      refine ⟨v, v1, rfl, ?_⟩
      rw [eqs v v1, y2] at v2
      unfold am_mn at v2
      split at v2 <;> omega
end
