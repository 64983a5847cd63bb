def am_ad (ad : Nat → Nat) (n q : Nat) : Nat → Nat := fun i => if i = n then q else ad i
theorem am_ad_lt {ad : Nat → Nat} {n q i : Nat} (h : i < n) : am_ad ad n q i = ad i := if_neg (by omega)
theorem am_ad_n {ad : Nat → Nat} {n q : Nat} : am_ad ad n q n = q := if_pos rfl
theorem am_new_lt {σ : am_M} {n i j : Nat} (h : i < n) : am_new σ n i j = σ i j := if_neg (by omega)
theorem am_new_n {σ : am_M} {n j : Nat} : am_new σ n n j = am_df n j := if_pos rfl
theorem am_en_ext {ka : Nat → Nat} {vF : Value} {ad ad' cA cA' : Nat → Nat} {σ σ' : am_M} {n i : Nat} (hi : i < n) (hM : am_okM n σ) (ha : ∀ i, i < n → ad' i = ad i) (hc : cA' i = cA i) (hs : ∀ j, σ' i j = σ i j) (hn : n ≤ 144) : am_en ka vF ad' cA' σ' i = am_en ka vF ad cA σ i := by
  have es : σ' i = σ i := funext hs
  unfold am_en
  rw [hc, es]
  cases h1 : Nat.blt (am_tag i) 100 with
  | true =>
    cases h2 : Nat.beq (am_tag i) 12 with
    | true => rfl
    | false =>
      cases h3 : Nat.beq (am_tag i) 15 with
      | false => rfl
      | true =>
        refine congrArg (fun f => (Sum.inl (cA i, am_len i, Sum.inr (Sum.inr (Sum.inr (Sum.inr f)))) : va_E)) (funext fun j => ?_)
        by_cases hj : σ i j < 0 ∨ am_len i ≤ j
        · rw [if_pos hj, if_pos hj]
        · rw [if_neg hj, if_neg hj]
          have hm := hM i j hi (by omega)
          rw [am_sl_15 (Nat.eq_of_beq_eq_true h3)] at hm
          rcases am_ok_r (am_isr_o (c := 6) (by decide)) hm with z | z
          · omega
          · rw [ha _ (by omega)]
  | false =>
    refine congrArg (fun f => (Sum.inr (am_tag i - 100, f) : va_E)) (List.map_congr_left fun j hj => ?_)
    exact am_cv_ext ha (hM i j hi (List.mem_range.mp hj))
theorem am_ws_push {ka : Nat → Nat} {vF : Value} {ad ad' cA cA' : Nat → Nat} {σ σ' : am_M} {n q : Nat} {E : va_E} (hM : am_okM n σ) (hn : n ≤ 144) (ha : ∀ i, i < n → ad' i = ad i) (hc : ∀ i, i < n → cA' i = cA i) (hs : ∀ i j, i < n → σ' i j = σ i j) (hq : ad' n = q) (hE : am_en ka vF ad' cA' σ' n = E) : am_ws ka vF ad cA σ n ++ [(q, E)] = am_ws ka vF ad' cA' σ' (n + 1) := by
  unfold am_ws
  rw [List.range_succ, List.map_append]
  congr 1
  · refine List.map_congr_left fun i hi => ?_
    have hi' := List.mem_range.mp hi
    rw [ha i hi', am_en_ext hi' hM ha (hc i hi') (fun j => hs i j hi') hn]
  · rw [List.map_cons, List.map_nil, hq, hE]
theorem am_df_ok : ∀ i, i < 144 → ∀ j, j < 79 → (am_sl i j = 0 ∧ am_df i j = 0) ∨ (am_sl i j = 1 ∧ am_df i j = 0) ∨ (am_isr (am_sl i j) = true ∧ am_df i j = -1) := by decide +kernel
theorem am_df_arr : ∀ i, i < 144 → am_tag i < 100 → ∀ j, am_df i j = bif Nat.beq (am_tag i) 15 then -1 else 0 := by
  intro i hi ht j
  unfold am_df
  rw [am_blt_t ht]
  rfl
theorem am_new_okM {σ : am_M} {n : Nat} (hn : n < 144) (h : am_okM n σ) : am_okM (n + 1) (am_new σ n) := by
  intro i j hi hj
  by_cases e : i = n
  · subst e
    rw [am_new_n]
    by_cases ht : am_tag i < 100
    · rw [am_df_arr i hn ht]
      unfold am_sl
      rw [am_blt_t ht]
      cases h12 : Nat.beq (am_tag i) 12 with
      | true =>
        rw [am_beq_t h12]
        exact am_ok_1 ⟨by decide, by decide⟩
      | false =>
        cases h15 : Nat.beq (am_tag i) 15 with
        | true => exact am_ok_ref (t := 106) (by decide) (Or.inl rfl)
        | false => exact am_ok_0 ⟨by decide, by decide⟩
    · have hl := (am_len_ft i hn (by omega)).1
      have := am_ft_len (am_tag i - 100) (am_len_ft i hn (by omega)).2
      rcases am_df_ok i hn j (by omega) with ⟨a, b⟩ | ⟨a, b⟩ | ⟨a, b⟩
      · rw [a, b]; exact am_ok_0 ⟨by decide, by decide⟩
      · rw [a, b]; exact am_ok_1 ⟨by decide, by decide⟩
      · rw [b]; exact am_ok_ref a (Or.inl rfl)
  · rw [am_new_lt (by omega)]
    exact am_ok_up (by omega) (h i j (by omega) hj)
