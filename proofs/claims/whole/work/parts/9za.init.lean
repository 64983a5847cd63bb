/-! THE START: the memory when both objects are made -/
section
set_option maxRecDepth 100000 in
theorem mx_0_W : mx_I1 am_id10 := by
  have z : am_id10 2 0 = 0 ∧ am_id10 2 3 = 0 ∧ am_id10 2 9 = 0 ∧ am_id10 82 0 = 0 ∧ am_id10 82 1 = 0 ∧ am_id10 82 2 = 0 := ⟨rfl, rfl, rfl, rfl, rfl, rfl⟩
  obtain ⟨z0, z3, z9, y0, y1, y2⟩ := z
  have d4 : ∀ c : Nat, c < 4 → am_id10 4 c = 100 ∧ am_id10 84 c = 100 := by
    intro c hc
    have : c = 0 ∨ c = 1 ∨ c = 2 ∨ c = 3 := by omega
    rcases this with q | q | q | q <;> subst q <;> exact ⟨rfl, rfl⟩
  have W : mx_W (am_id10 2 0) (am_id10 2 3) (am_id10 2 9) (am_id10 3) (am_id10 4) (am_id10 5) (am_id10 6) (am_id10 7) (am_id10 8) (am_id10 9) (am_id10 10) (am_id10 11) := by
    rw [z0, z3, z9]
    refine ⟨⟨⟨by decide, by decide⟩, fun t h => absurd h (by omega), fun c hc => ?_⟩, ⟨by decide, by decide, by decide⟩, ⟨fun e h => absurd h (by omega), fun i h => absurd h (by omega)⟩, fun e h => absurd h (by omega), fun e f _ h => absurd h (by omega), fun i h => absurd h (by omega), fun e h => absurd h (by omega), ⟨fun i h => absurd h (by omega), fun e h => absurd h (by omega)⟩⟩
    rw [(d4 c hc).1]; decide
  refine mx_I1_of (μ := am_id10) ⟨W, by rw [z3]; decide, fun i hi => absurd hi (by rw [z9]; omega)⟩ ⟨⟨fun e he => absurd he (by rw [z3]; omega), fun i hi => absurd hi (by rw [z9]; omega), by rw [y1, z3], by rw [y2, z9], by rw [z9]; decide, by rw [z9, z3]; decide, by rw [z3]; decide⟩, by rw [y0, z0], fun t h => absurd h (by rw [z0]; omega), fun c hc => by rw [(d4 c hc).1, (d4 c hc).2]⟩ (fun _ _ _ _ => rfl)
set_option maxRecDepth 100000 in
theorem mx_0_2 : mx_I2 am_id10 := by
  have z3 : am_id10 2 3 = 0 := rfl
  refine ⟨?_, fun r hr => rfl, rfl⟩
  rw [z3]
  have k13 : am_id10 13 = fun _ => 0 := funext fun j => rfl
  have k96 : am_id10 96 = fun _ => 0 := funext fun j => rfl
  rw [k13, k96]
  refine ⟨fun i hi => Or.inl rfl, fun e he => ⟨⟨fun _ => rfl, fun _ => rfl⟩, fun _ => rfl⟩, fun e r f he h1 h2 hf => ⟨fun h => absurd rfl h, fun h => ?_, fun _ => rfl⟩⟩
  have : mx_bt 0 f = false := mx_bt_0 f
  rw [this] at h
  cases h
set_option maxRecDepth 100000 in
theorem mx_0_6 : mx_I6 am_id10 := by
  intro s hs
  have : s = 0 ∨ s = 1 ∨ s = 2 ∨ s = 3 ∨ s = 4 ∨ s = 5 ∨ s = 6 ∨ s = 7 := by omega
  rcases this with q | q | q | q | q | q | q | q <;> subst q <;> exact Or.inl ⟨rfl, rfl, rfl, rfl⟩
set_option maxRecDepth 100000 in
theorem mx_0_7 : mx_I7 am_id10 := by
  have z9 : am_id10 0 9 = 58 := rfl
  have z8 : am_id10 82 8 = 0 := rfl
  refine ⟨Or.inl ⟨z9, rfl⟩, ?_, ?_, ?_, ?_⟩
  · rw [z9, z8]; rfl
  · rw [z8]; decide
  · rw [z8]; intro i hi; omega
  · rw [z8]; intro h; omega
set_option maxRecDepth 100000 in
theorem mx_0_A : mx_IA 0 am_id10 := by
  have z17 : am_id10 2 17 = 0 := rfl
  have z4 : am_id10 29 4 = -1 := rfl
  have z6 : am_id10 33 6 = -1 := rfl
  refine ⟨by rw [z17]; decide, by rw [z17, z4]; decide, by rw [z17, z6]; decide, fun h => ?_, fun h => ?_, Or.inl ⟨rfl, rfl⟩⟩
  · rw [z17, z4] at h; omega
  · rw [z17, z6] at h; omega
set_option maxRecDepth 100000 in
/-- it holds at the start -/
theorem mx_Inv_0 : mx_Inv 0 141 am_id10 := ⟨mx_0_W, mx_0_2, ⟨rfl, rfl⟩, rfl, fun k hk => rfl, mx_0_6, mx_0_7, ⟨rfl, ⟨by show (0 : Int) ≤ 0; decide, by show (0 : Int) ≤ 20; decide⟩, fun i hi => absurd hi (by show ¬ (i : Int) < 0; omega)⟩, Or.inl ⟨rfl, rfl, rfl⟩, mx_0_A⟩
theorem mx_at_len : ∀ (l : List Bool) (j : Nat), l.length ≤ j → am_at false l j = false := by
  intro l
  induction l with
  | nil => intro j _; cases j <;> rfl
  | cons b l ih =>
    intro j hj
    cases j with
    | zero => cases hj
    | succ j => exact ih j (Nat.le_of_succ_le_succ hj)
set_option maxRecDepth 100000 in
theorem mx_0_fin : ∀ i, i < 141 → (am_isf (am_tag i - 100)).length ≤ 80 ∧ ∀ j, j < 80 → am_isfn i j = true → am_id10 i j = am_fin i j := by decide +kernel
/-- final references -/
theorem mx_0_okF : am_okF true 141 am_id10 := fun _ i j hi h => by
  obtain ⟨h1, h2⟩ := mx_0_fin i hi
  by_cases q : j < 80
  · exact h2 j q h
  · unfold am_isfn at h
    cases z : Nat.beq (am_tag i) 15 with
    | true =>
      rw [z] at h
      have : j < 8 := am_blt_lt h
      omega
    | false =>
      rw [z] at h
      have h : (Nat.ble 100 (am_tag i) && am_at false (am_isf (am_tag i - 100)) j) = true := h
      rw [mx_at_len _ j (by omega), Bool.and_false] at h
      cases h
end
