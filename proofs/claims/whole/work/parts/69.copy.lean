/-! THE IMAGE: what is copied -/
theorem mx_wr_no {σ : am_M} {a k i j : Nat} {v : Int} (h : ¬ (i = a ∧ j = k)) : am_wr σ a k v i j = σ i j := if_neg h
theorem mx_wr_yes {σ : am_M} {a k i j : Nat} {v : Int} (h : i = a ∧ j = k) : am_wr σ a k v i j = v := if_pos h
theorem mx_mod2 {z : Int} (h : z = 0 ∨ z = 1) : z % 2 = z := by omega
theorem mx_tn141 : Int.toNat 141 = 141 := by omega
theorem mx_tn142 : Int.toNat 142 = 142 := by omega
theorem mx_tn143 : Int.toNat 143 = 143 := by omega
theorem mx_to6 (i : Nat) : ((6 : Int) + i).toNat = 6 + i := by omega
theorem mx_to10 (i : Nat) : ((10 : Int) + i).toNat = 10 + i := by omega
theorem mx_to20 (i : Nat) : ((20 : Int) + i).toNat = 20 + i := by omega
theorem mx_to30 (i : Nat) : ((30 : Int) + i).toNat = 30 + i := by omega
theorem mx_to40 (i : Nat) : ((40 : Int) + i).toNat = 40 + i := by omega
theorem mx_to50 (i : Nat) : ((50 : Int) + i).toNat = 50 + i := by omega
theorem mx_to60 (i : Nat) : ((60 : Int) + i).toNat = 60 + i := by omega
theorem mx_to130 (i : Nat) : ((130 : Int) + i).toNat = 130 + i := by omega
theorem mx_to200 (i : Nat) : ((200 : Int) + i).toNat = 200 + i := by omega
theorem mx_to270 (i : Nat) : ((270 : Int) + i).toNat = 270 + i := by omega
theorem mx_to340 (i : Nat) : ((340 : Int) + i).toNat = 340 + i := by omega
theorem mx_to410 (i : Nat) : ((410 : Int) + i).toNat = 410 + i := by omega
theorem mo_image_305_s (d n : Nat) : ∀ (k i : Nat) (σ : am_M), i + k = 29120 → σ 82 74 = 143 → ∃ σ' : am_M, mo_image_305 d i σ n = (fun σ n => some (σ 82 1, σ, n)) σ' n ∧ (∀ j : Nat, i ≤ j → j < 29120 → σ' 143 (0 + j) = σ 96 (0 + j) % 2) ∧ ∀ c j : Nat, ¬ (c = 143 ∧ 0 + i ≤ j ∧ j < 0 + 29120) → σ' c j = σ c j := by
  intro k
  induction k with
  | zero =>
    intro i σ hi f0
    exact ⟨σ, by rw [mo_image_305_e, if_neg (by omega)], fun j h1 h2 => by omega, fun c j _ => rfl⟩
  | succ k ih =>
    intro i σ hi f0
    obtain ⟨σ', p, q0, r⟩ := ih (i + 1) (am_wr σ 143 (0 + i) (σ 96 (0 + i) % 2)) (by omega) (by simp (disch := first | omega | decide) only [mx_wr_no, mx_wr_yes]; assumption)
    refine ⟨σ', ?_, fun j h1 h2 => ?_, fun c j h0 => ?_⟩
    · rw [mo_image_305_e, if_pos (by omega)]
      simp (disch := first | omega | decide) only [mx_tn141, mx_tn142, mx_tn143, mx_m, ix_96, ix_143, mx_w_id, Int.toNat_natCast, Nat.zero_add, mx_w_nat, mx_wr_no, f0]
      have p' := p
      simp only [Nat.zero_add] at p'
      first | exact p' | (rw [Int.natCast_add, Int.natCast_one] at p'; exact p')
    · by_cases z : j = i
      · rw [r _ _ (by omega), z]; simp (disch := first | omega | decide) only [mx_wr_no, mx_wr_yes]
      · rw [q0 j (by omega) h2]; simp (disch := first | omega | decide) only [mx_wr_no, mx_wr_yes]
    · rw [r _ _ (by omega)]; simp (disch := first | omega | decide) only [mx_wr_no, mx_wr_yes]
theorem mo_image_202_s (d n : Nat) : ∀ (k i : Nat) (σ : am_M), i + k = 64 → σ 82 73 = 142 → ∃ σ' : am_M, mo_image_202 d 141 i σ n = mo_image_305 d 0 σ' n ∧ (∀ j : Nat, i ≤ j → j < 64 → σ' 141 (60 + j) = σ 89 (0 + j)) ∧ (∀ j : Nat, i ≤ j → j < 64 → σ' 141 (130 + j) = σ 90 (0 + j)) ∧ (∀ j : Nat, i ≤ j → j < 64 → σ' 141 (200 + j) = σ 91 (0 + j)) ∧ (∀ j : Nat, i ≤ j → j < 64 → σ' 141 (270 + j) = σ 92 (0 + j)) ∧ (∀ j : Nat, i ≤ j → j < 64 → σ' 141 (340 + j) = σ 93 (0 + j)) ∧ (∀ j : Nat, i ≤ j → j < 64 → σ' 141 (410 + j) = σ 94 (0 + j)) ∧ (∀ j : Nat, i ≤ j → j < 64 → σ' 142 (0 + j) = σ 95 (0 + j) % 2) ∧ ∀ c j : Nat, ¬ (c = 141 ∧ 60 + i ≤ j ∧ j < 60 + 64) → ¬ (c = 141 ∧ 130 + i ≤ j ∧ j < 130 + 64) → ¬ (c = 141 ∧ 200 + i ≤ j ∧ j < 200 + 64) → ¬ (c = 141 ∧ 270 + i ≤ j ∧ j < 270 + 64) → ¬ (c = 141 ∧ 340 + i ≤ j ∧ j < 340 + 64) → ¬ (c = 141 ∧ 410 + i ≤ j ∧ j < 410 + 64) → ¬ (c = 142 ∧ 0 + i ≤ j ∧ j < 0 + 64) → σ' c j = σ c j := by
  intro k
  induction k with
  | zero =>
    intro i σ hi f0
    exact ⟨σ, by rw [mo_image_202_e, if_neg (by omega)], fun j h1 h2 => by omega, fun j h1 h2 => by omega, fun j h1 h2 => by omega, fun j h1 h2 => by omega, fun j h1 h2 => by omega, fun j h1 h2 => by omega, fun j h1 h2 => by omega, fun c j _ _ _ _ _ _ _ => rfl⟩
  | succ k ih =>
    intro i σ hi f0
    obtain ⟨σ', p, q0, q1, q2, q3, q4, q5, q6, r⟩ := ih (i + 1) (am_wr (am_wr (am_wr (am_wr (am_wr (am_wr (am_wr σ 141 (60 + i) (σ 89 (0 + i))) 141 (130 + i) (σ 90 (0 + i))) 141 (200 + i) (σ 91 (0 + i))) 141 (270 + i) (σ 92 (0 + i))) 141 (340 + i) (σ 93 (0 + i))) 141 (410 + i) (σ 94 (0 + i))) 142 (0 + i) (σ 95 (0 + i) % 2)) (by omega) (by simp (disch := first | omega | decide) only [mx_wr_no, mx_wr_yes]; assumption)
    refine ⟨σ', ?_, fun j h1 h2 => ?_, fun j h1 h2 => ?_, fun j h1 h2 => ?_, fun j h1 h2 => ?_, fun j h1 h2 => ?_, fun j h1 h2 => ?_, fun j h1 h2 => ?_, fun c j h0 h1 h2 h3 h4 h5 h6 => ?_⟩
    · rw [mo_image_202_e, if_pos (by omega)]
      simp (disch := first | omega | decide) only [mx_tn141, mx_tn142, mx_tn143, mx_m, ix_89, ix_90, ix_91, ix_92, ix_93, ix_94, ix_95, ix_141, ix_142, mx_w_id, Int.toNat_natCast, mx_to60, mx_to130, mx_to200, mx_to270, mx_to340, mx_to410, mx_w_nat, mx_wr_no, f0]
      have p' := p
      simp only [Nat.zero_add] at p'
      first | exact p' | (rw [Int.natCast_add, Int.natCast_one] at p'; exact p')
    · by_cases z : j = i
      · rw [r _ _ (by omega) (by omega) (by omega) (by omega) (by omega) (by omega) (by omega), z]; simp (disch := first | omega | decide) only [mx_wr_no, mx_wr_yes]
      · rw [q0 j (by omega) h2]; simp (disch := first | omega | decide) only [mx_wr_no, mx_wr_yes]
    · by_cases z : j = i
      · rw [r _ _ (by omega) (by omega) (by omega) (by omega) (by omega) (by omega) (by omega), z]; simp (disch := first | omega | decide) only [mx_wr_no, mx_wr_yes]
      · rw [q1 j (by omega) h2]; simp (disch := first | omega | decide) only [mx_wr_no, mx_wr_yes]
    · by_cases z : j = i
      · rw [r _ _ (by omega) (by omega) (by omega) (by omega) (by omega) (by omega) (by omega), z]; simp (disch := first | omega | decide) only [mx_wr_no, mx_wr_yes]
      · rw [q2 j (by omega) h2]; simp (disch := first | omega | decide) only [mx_wr_no, mx_wr_yes]
    · by_cases z : j = i
      · rw [r _ _ (by omega) (by omega) (by omega) (by omega) (by omega) (by omega) (by omega), z]; simp (disch := first | omega | decide) only [mx_wr_no, mx_wr_yes]
      · rw [q3 j (by omega) h2]; simp (disch := first | omega | decide) only [mx_wr_no, mx_wr_yes]
    · by_cases z : j = i
      · rw [r _ _ (by omega) (by omega) (by omega) (by omega) (by omega) (by omega) (by omega), z]; simp (disch := first | omega | decide) only [mx_wr_no, mx_wr_yes]
      · rw [q4 j (by omega) h2]; simp (disch := first | omega | decide) only [mx_wr_no, mx_wr_yes]
    · by_cases z : j = i
      · rw [r _ _ (by omega) (by omega) (by omega) (by omega) (by omega) (by omega) (by omega), z]; simp (disch := first | omega | decide) only [mx_wr_no, mx_wr_yes]
      · rw [q5 j (by omega) h2]; simp (disch := first | omega | decide) only [mx_wr_no, mx_wr_yes]
    · by_cases z : j = i
      · rw [r _ _ (by omega) (by omega) (by omega) (by omega) (by omega) (by omega) (by omega), z]; simp (disch := first | omega | decide) only [mx_wr_no, mx_wr_yes]
      · rw [q6 j (by omega) h2]; simp (disch := first | omega | decide) only [mx_wr_no, mx_wr_yes]
    · rw [r _ _ (by omega) (by omega) (by omega) (by omega) (by omega) (by omega) (by omega)]; simp (disch := first | omega | decide) only [mx_wr_no, mx_wr_yes]
theorem mo_image_140_s (d n : Nat) : ∀ (k i : Nat) (σ : am_M), i + k = 8 → ∃ σ' : am_M, mo_image_140 d 141 i σ n = mo_image_202 d 141 0 σ' n ∧ (∀ j : Nat, i ≤ j → j < 8 → σ' 141 (20 + j) = σ 85 (0 + j)) ∧ (∀ j : Nat, i ≤ j → j < 8 → σ' 141 (30 + j) = σ 86 (0 + j)) ∧ (∀ j : Nat, i ≤ j → j < 8 → σ' 141 (40 + j) = σ 87 (0 + j)) ∧ (∀ j : Nat, i ≤ j → j < 8 → σ' 141 (50 + j) = σ 88 (0 + j)) ∧ ∀ c j : Nat, ¬ (c = 141 ∧ 20 + i ≤ j ∧ j < 20 + 8) → ¬ (c = 141 ∧ 30 + i ≤ j ∧ j < 30 + 8) → ¬ (c = 141 ∧ 40 + i ≤ j ∧ j < 40 + 8) → ¬ (c = 141 ∧ 50 + i ≤ j ∧ j < 50 + 8) → σ' c j = σ c j := by
  intro k
  induction k with
  | zero =>
    intro i σ hi
    exact ⟨σ, by rw [mo_image_140_e, if_neg (by omega)], fun j h1 h2 => by omega, fun j h1 h2 => by omega, fun j h1 h2 => by omega, fun j h1 h2 => by omega, fun c j _ _ _ _ => rfl⟩
  | succ k ih =>
    intro i σ hi
    obtain ⟨σ', p, q0, q1, q2, q3, r⟩ := ih (i + 1) (am_wr (am_wr (am_wr (am_wr σ 141 (20 + i) (σ 85 (0 + i))) 141 (30 + i) (σ 86 (0 + i))) 141 (40 + i) (σ 87 (0 + i))) 141 (50 + i) (σ 88 (0 + i))) (by omega)
    refine ⟨σ', ?_, fun j h1 h2 => ?_, fun j h1 h2 => ?_, fun j h1 h2 => ?_, fun j h1 h2 => ?_, fun c j h0 h1 h2 h3 => ?_⟩
    · rw [mo_image_140_e, if_pos (by omega)]
      simp (disch := first | omega | decide) only [mx_tn141, mx_tn142, mx_tn143, mx_m, ix_85, ix_86, ix_87, ix_88, ix_141, mx_w_id, Int.toNat_natCast, mx_to20, mx_to30, mx_to40, mx_to50, mx_w_nat, mx_wr_no]
      have p' := p
      simp only [Nat.zero_add] at p'
      first | exact p' | (rw [Int.natCast_add, Int.natCast_one] at p'; exact p')
    · by_cases z : j = i
      · rw [r _ _ (by omega) (by omega) (by omega) (by omega), z]; simp (disch := first | omega | decide) only [mx_wr_no, mx_wr_yes]
      · rw [q0 j (by omega) h2]; simp (disch := first | omega | decide) only [mx_wr_no, mx_wr_yes]
    · by_cases z : j = i
      · rw [r _ _ (by omega) (by omega) (by omega) (by omega), z]; simp (disch := first | omega | decide) only [mx_wr_no, mx_wr_yes]
      · rw [q1 j (by omega) h2]; simp (disch := first | omega | decide) only [mx_wr_no, mx_wr_yes]
    · by_cases z : j = i
      · rw [r _ _ (by omega) (by omega) (by omega) (by omega), z]; simp (disch := first | omega | decide) only [mx_wr_no, mx_wr_yes]
      · rw [q2 j (by omega) h2]; simp (disch := first | omega | decide) only [mx_wr_no, mx_wr_yes]
    · by_cases z : j = i
      · rw [r _ _ (by omega) (by omega) (by omega) (by omega), z]; simp (disch := first | omega | decide) only [mx_wr_no, mx_wr_yes]
      · rw [q3 j (by omega) h2]; simp (disch := first | omega | decide) only [mx_wr_no, mx_wr_yes]
    · rw [r _ _ (by omega) (by omega) (by omega) (by omega)]; simp (disch := first | omega | decide) only [mx_wr_no, mx_wr_yes]
theorem mo_image_114_s (d n : Nat) : ∀ (k i : Nat) (σ : am_M), i + k = 7 → ∃ σ' : am_M, mo_image_114 d 141 i σ n = mo_image_140 d 141 0 σ' n ∧ (∀ j : Nat, i ≤ j → j < 7 → σ' 141 (10 + j) = σ 97 (0 + j)) ∧ ∀ c j : Nat, ¬ (c = 141 ∧ 10 + i ≤ j ∧ j < 10 + 7) → σ' c j = σ c j := by
  intro k
  induction k with
  | zero =>
    intro i σ hi
    exact ⟨σ, by rw [mo_image_114_e, if_neg (by omega)], fun j h1 h2 => by omega, fun c j _ => rfl⟩
  | succ k ih =>
    intro i σ hi
    obtain ⟨σ', p, q0, r⟩ := ih (i + 1) (am_wr σ 141 (10 + i) (σ 97 (0 + i))) (by omega)
    refine ⟨σ', ?_, fun j h1 h2 => ?_, fun c j h0 => ?_⟩
    · rw [mo_image_114_e, if_pos (by omega)]
      simp (disch := first | omega | decide) only [mx_tn141, mx_tn142, mx_tn143, mx_m, ix_97, ix_141, mx_w_id, Int.toNat_natCast, mx_to10, mx_w_nat, mx_wr_no]
      have p' := p
      simp only [Nat.zero_add] at p'
      first | exact p' | (rw [Int.natCast_add, Int.natCast_one] at p'; exact p')
    · by_cases z : j = i
      · rw [r _ _ (by omega), z]; simp (disch := first | omega | decide) only [mx_wr_no, mx_wr_yes]
      · rw [q0 j (by omega) h2]; simp (disch := first | omega | decide) only [mx_wr_no, mx_wr_yes]
    · rw [r _ _ (by omega)]; simp (disch := first | omega | decide) only [mx_wr_no, mx_wr_yes]
theorem mo_image_89_s (d n : Nat) : ∀ (k i : Nat) (σ : am_M), i + k = 4 → ∃ σ' : am_M, mo_image_89 d 141 i σ n = mo_image_114 d 141 0 σ' n ∧ (∀ j : Nat, i ≤ j → j < 4 → σ' 141 (6 + j) = σ 84 (0 + j)) ∧ ∀ c j : Nat, ¬ (c = 141 ∧ 6 + i ≤ j ∧ j < 6 + 4) → σ' c j = σ c j := by
  intro k
  induction k with
  | zero =>
    intro i σ hi
    exact ⟨σ, by rw [mo_image_89_e, if_neg (by omega)], fun j h1 h2 => by omega, fun c j _ => rfl⟩
  | succ k ih =>
    intro i σ hi
    obtain ⟨σ', p, q0, r⟩ := ih (i + 1) (am_wr σ 141 (6 + i) (σ 84 (0 + i))) (by omega)
    refine ⟨σ', ?_, fun j h1 h2 => ?_, fun c j h0 => ?_⟩
    · rw [mo_image_89_e, if_pos (by omega)]
      simp (disch := first | omega | decide) only [mx_tn141, mx_tn142, mx_tn143, mx_m, ix_84, ix_141, mx_w_id, Int.toNat_natCast, mx_to6, mx_w_nat, mx_wr_no]
      have p' := p
      simp only [Nat.zero_add] at p'
      first | exact p' | (rw [Int.natCast_add, Int.natCast_one] at p'; exact p')
    · by_cases z : j = i
      · rw [r _ _ (by omega), z]; simp (disch := first | omega | decide) only [mx_wr_no, mx_wr_yes]
      · rw [q0 j (by omega) h2]; simp (disch := first | omega | decide) only [mx_wr_no, mx_wr_yes]
    · rw [r _ _ (by omega)]; simp (disch := first | omega | decide) only [mx_wr_no, mx_wr_yes]
theorem mo_restore_279_s (d n : Nat) : ∀ (k i : Nat) (σ : am_M), i + k = 29120 → σ 82 74 = 143 → ∃ σ' : am_M, mo_restore_279 d i σ n = mo_restore_308 d 0 σ' n ∧ (∀ j : Nat, i ≤ j → j < 29120 → σ' 96 (0 + j) = σ 143 (0 + j) % 2) ∧ ∀ c j : Nat, ¬ (c = 96 ∧ 0 + i ≤ j ∧ j < 0 + 29120) → σ' c j = σ c j := by
  intro k
  induction k with
  | zero =>
    intro i σ hi f0
    exact ⟨σ, by rw [mo_restore_279_e, if_neg (by omega)], fun j h1 h2 => by omega, fun c j _ => rfl⟩
  | succ k ih =>
    intro i σ hi f0
    obtain ⟨σ', p, q0, r⟩ := ih (i + 1) (am_wr σ 96 (0 + i) (σ 143 (0 + i) % 2)) (by omega) (by simp (disch := first | omega | decide) only [mx_wr_no, mx_wr_yes]; assumption)
    refine ⟨σ', ?_, fun j h1 h2 => ?_, fun c j h0 => ?_⟩
    · rw [mo_restore_279_e, if_pos (by omega)]
      simp (disch := first | omega | decide) only [mx_tn141, mx_tn142, mx_tn143, mx_m, ix_96, ix_143, mx_w_id, Int.toNat_natCast, Nat.zero_add, mx_w_nat, mx_wr_no, f0]
      have p' := p
      simp only [Nat.zero_add] at p'
      first | exact p' | (rw [Int.natCast_add, Int.natCast_one] at p'; exact p')
    · by_cases z : j = i
      · rw [r _ _ (by omega), z]; simp (disch := first | omega | decide) only [mx_wr_no, mx_wr_yes]
      · rw [q0 j (by omega) h2]; simp (disch := first | omega | decide) only [mx_wr_no, mx_wr_yes]
    · rw [r _ _ (by omega)]; simp (disch := first | omega | decide) only [mx_wr_no, mx_wr_yes]
theorem mo_restore_176_s (d n : Nat) : ∀ (k i : Nat) (σ : am_M), i + k = 64 → σ 82 73 = 142 → ∃ σ' : am_M, mo_restore_176 d 141 i σ n = mo_restore_279 d 0 σ' n ∧ (∀ j : Nat, i ≤ j → j < 64 → σ' 89 (0 + j) = σ 141 (60 + j)) ∧ (∀ j : Nat, i ≤ j → j < 64 → σ' 90 (0 + j) = σ 141 (130 + j)) ∧ (∀ j : Nat, i ≤ j → j < 64 → σ' 91 (0 + j) = σ 141 (200 + j)) ∧ (∀ j : Nat, i ≤ j → j < 64 → σ' 92 (0 + j) = σ 141 (270 + j)) ∧ (∀ j : Nat, i ≤ j → j < 64 → σ' 93 (0 + j) = σ 141 (340 + j)) ∧ (∀ j : Nat, i ≤ j → j < 64 → σ' 94 (0 + j) = σ 141 (410 + j)) ∧ (∀ j : Nat, i ≤ j → j < 64 → σ' 95 (0 + j) = σ 142 (0 + j) % 2) ∧ ∀ c j : Nat, ¬ (c = 89 ∧ 0 + i ≤ j ∧ j < 0 + 64) → ¬ (c = 90 ∧ 0 + i ≤ j ∧ j < 0 + 64) → ¬ (c = 91 ∧ 0 + i ≤ j ∧ j < 0 + 64) → ¬ (c = 92 ∧ 0 + i ≤ j ∧ j < 0 + 64) → ¬ (c = 93 ∧ 0 + i ≤ j ∧ j < 0 + 64) → ¬ (c = 94 ∧ 0 + i ≤ j ∧ j < 0 + 64) → ¬ (c = 95 ∧ 0 + i ≤ j ∧ j < 0 + 64) → σ' c j = σ c j := by
  intro k
  induction k with
  | zero =>
    intro i σ hi f0
    exact ⟨σ, by rw [mo_restore_176_e, if_neg (by omega)], fun j h1 h2 => by omega, fun j h1 h2 => by omega, fun j h1 h2 => by omega, fun j h1 h2 => by omega, fun j h1 h2 => by omega, fun j h1 h2 => by omega, fun j h1 h2 => by omega, fun c j _ _ _ _ _ _ _ => rfl⟩
  | succ k ih =>
    intro i σ hi f0
    obtain ⟨σ', p, q0, q1, q2, q3, q4, q5, q6, r⟩ := ih (i + 1) (am_wr (am_wr (am_wr (am_wr (am_wr (am_wr (am_wr σ 89 (0 + i) (σ 141 (60 + i))) 90 (0 + i) (σ 141 (130 + i))) 91 (0 + i) (σ 141 (200 + i))) 92 (0 + i) (σ 141 (270 + i))) 93 (0 + i) (σ 141 (340 + i))) 94 (0 + i) (σ 141 (410 + i))) 95 (0 + i) (σ 142 (0 + i) % 2)) (by omega) (by simp (disch := first | omega | decide) only [mx_wr_no, mx_wr_yes]; assumption)
    refine ⟨σ', ?_, fun j h1 h2 => ?_, fun j h1 h2 => ?_, fun j h1 h2 => ?_, fun j h1 h2 => ?_, fun j h1 h2 => ?_, fun j h1 h2 => ?_, fun j h1 h2 => ?_, fun c j h0 h1 h2 h3 h4 h5 h6 => ?_⟩
    · rw [mo_restore_176_e, if_pos (by omega)]
      simp (disch := first | omega | decide) only [mx_tn141, mx_tn142, mx_tn143, mx_m, ix_89, ix_90, ix_91, ix_92, ix_93, ix_94, ix_95, ix_141, ix_142, mx_w_id, Int.toNat_natCast, mx_to60, mx_to130, mx_to200, mx_to270, mx_to340, mx_to410, mx_w_nat, mx_wr_no, f0]
      have p' := p
      simp only [Nat.zero_add] at p'
      first | exact p' | (rw [Int.natCast_add, Int.natCast_one] at p'; exact p')
    · by_cases z : j = i
      · rw [r _ _ (by omega) (by omega) (by omega) (by omega) (by omega) (by omega) (by omega), z]; simp (disch := first | omega | decide) only [mx_wr_no, mx_wr_yes]
      · rw [q0 j (by omega) h2]; simp (disch := first | omega | decide) only [mx_wr_no, mx_wr_yes]
    · by_cases z : j = i
      · rw [r _ _ (by omega) (by omega) (by omega) (by omega) (by omega) (by omega) (by omega), z]; simp (disch := first | omega | decide) only [mx_wr_no, mx_wr_yes]
      · rw [q1 j (by omega) h2]; simp (disch := first | omega | decide) only [mx_wr_no, mx_wr_yes]
    · by_cases z : j = i
      · rw [r _ _ (by omega) (by omega) (by omega) (by omega) (by omega) (by omega) (by omega), z]; simp (disch := first | omega | decide) only [mx_wr_no, mx_wr_yes]
      · rw [q2 j (by omega) h2]; simp (disch := first | omega | decide) only [mx_wr_no, mx_wr_yes]
    · by_cases z : j = i
      · rw [r _ _ (by omega) (by omega) (by omega) (by omega) (by omega) (by omega) (by omega), z]; simp (disch := first | omega | decide) only [mx_wr_no, mx_wr_yes]
      · rw [q3 j (by omega) h2]; simp (disch := first | omega | decide) only [mx_wr_no, mx_wr_yes]
    · by_cases z : j = i
      · rw [r _ _ (by omega) (by omega) (by omega) (by omega) (by omega) (by omega) (by omega), z]; simp (disch := first | omega | decide) only [mx_wr_no, mx_wr_yes]
      · rw [q4 j (by omega) h2]; simp (disch := first | omega | decide) only [mx_wr_no, mx_wr_yes]
    · by_cases z : j = i
      · rw [r _ _ (by omega) (by omega) (by omega) (by omega) (by omega) (by omega) (by omega), z]; simp (disch := first | omega | decide) only [mx_wr_no, mx_wr_yes]
      · rw [q5 j (by omega) h2]; simp (disch := first | omega | decide) only [mx_wr_no, mx_wr_yes]
    · by_cases z : j = i
      · rw [r _ _ (by omega) (by omega) (by omega) (by omega) (by omega) (by omega) (by omega), z]; simp (disch := first | omega | decide) only [mx_wr_no, mx_wr_yes]
      · rw [q6 j (by omega) h2]; simp (disch := first | omega | decide) only [mx_wr_no, mx_wr_yes]
    · rw [r _ _ (by omega) (by omega) (by omega) (by omega) (by omega) (by omega) (by omega)]; simp (disch := first | omega | decide) only [mx_wr_no, mx_wr_yes]
theorem mo_restore_114_s (d n : Nat) : ∀ (k i : Nat) (σ : am_M), i + k = 8 → ∃ σ' : am_M, mo_restore_114 d 141 i σ n = mo_restore_176 d 141 0 σ' n ∧ (∀ j : Nat, i ≤ j → j < 8 → σ' 85 (0 + j) = σ 141 (20 + j)) ∧ (∀ j : Nat, i ≤ j → j < 8 → σ' 86 (0 + j) = σ 141 (30 + j)) ∧ (∀ j : Nat, i ≤ j → j < 8 → σ' 87 (0 + j) = σ 141 (40 + j)) ∧ (∀ j : Nat, i ≤ j → j < 8 → σ' 88 (0 + j) = σ 141 (50 + j)) ∧ ∀ c j : Nat, ¬ (c = 85 ∧ 0 + i ≤ j ∧ j < 0 + 8) → ¬ (c = 86 ∧ 0 + i ≤ j ∧ j < 0 + 8) → ¬ (c = 87 ∧ 0 + i ≤ j ∧ j < 0 + 8) → ¬ (c = 88 ∧ 0 + i ≤ j ∧ j < 0 + 8) → σ' c j = σ c j := by
  intro k
  induction k with
  | zero =>
    intro i σ hi
    exact ⟨σ, by rw [mo_restore_114_e, if_neg (by omega)], fun j h1 h2 => by omega, fun j h1 h2 => by omega, fun j h1 h2 => by omega, fun j h1 h2 => by omega, fun c j _ _ _ _ => rfl⟩
  | succ k ih =>
    intro i σ hi
    obtain ⟨σ', p, q0, q1, q2, q3, r⟩ := ih (i + 1) (am_wr (am_wr (am_wr (am_wr σ 85 (0 + i) (σ 141 (20 + i))) 86 (0 + i) (σ 141 (30 + i))) 87 (0 + i) (σ 141 (40 + i))) 88 (0 + i) (σ 141 (50 + i))) (by omega)
    refine ⟨σ', ?_, fun j h1 h2 => ?_, fun j h1 h2 => ?_, fun j h1 h2 => ?_, fun j h1 h2 => ?_, fun c j h0 h1 h2 h3 => ?_⟩
    · rw [mo_restore_114_e, if_pos (by omega)]
      simp (disch := first | omega | decide) only [mx_tn141, mx_tn142, mx_tn143, mx_m, ix_85, ix_86, ix_87, ix_88, ix_141, mx_w_id, Int.toNat_natCast, mx_to20, mx_to30, mx_to40, mx_to50, mx_w_nat, mx_wr_no]
      have p' := p
      simp only [Nat.zero_add] at p'
      first | exact p' | (rw [Int.natCast_add, Int.natCast_one] at p'; exact p')
    · by_cases z : j = i
      · rw [r _ _ (by omega) (by omega) (by omega) (by omega), z]; simp (disch := first | omega | decide) only [mx_wr_no, mx_wr_yes]
      · rw [q0 j (by omega) h2]; simp (disch := first | omega | decide) only [mx_wr_no, mx_wr_yes]
    · by_cases z : j = i
      · rw [r _ _ (by omega) (by omega) (by omega) (by omega), z]; simp (disch := first | omega | decide) only [mx_wr_no, mx_wr_yes]
      · rw [q1 j (by omega) h2]; simp (disch := first | omega | decide) only [mx_wr_no, mx_wr_yes]
    · by_cases z : j = i
      · rw [r _ _ (by omega) (by omega) (by omega) (by omega), z]; simp (disch := first | omega | decide) only [mx_wr_no, mx_wr_yes]
      · rw [q2 j (by omega) h2]; simp (disch := first | omega | decide) only [mx_wr_no, mx_wr_yes]
    · by_cases z : j = i
      · rw [r _ _ (by omega) (by omega) (by omega) (by omega), z]; simp (disch := first | omega | decide) only [mx_wr_no, mx_wr_yes]
      · rw [q3 j (by omega) h2]; simp (disch := first | omega | decide) only [mx_wr_no, mx_wr_yes]
    · rw [r _ _ (by omega) (by omega) (by omega) (by omega)]; simp (disch := first | omega | decide) only [mx_wr_no, mx_wr_yes]
theorem mo_restore_88_s (d n : Nat) : ∀ (k i : Nat) (σ : am_M), i + k = 7 → ∃ σ' : am_M, mo_restore_88 d 141 i σ n = mo_restore_114 d 141 0 σ' n ∧ (∀ j : Nat, i ≤ j → j < 7 → σ' 97 (0 + j) = σ 141 (10 + j)) ∧ ∀ c j : Nat, ¬ (c = 97 ∧ 0 + i ≤ j ∧ j < 0 + 7) → σ' c j = σ c j := by
  intro k
  induction k with
  | zero =>
    intro i σ hi
    exact ⟨σ, by rw [mo_restore_88_e, if_neg (by omega)], fun j h1 h2 => by omega, fun c j _ => rfl⟩
  | succ k ih =>
    intro i σ hi
    obtain ⟨σ', p, q0, r⟩ := ih (i + 1) (am_wr σ 97 (0 + i) (σ 141 (10 + i))) (by omega)
    refine ⟨σ', ?_, fun j h1 h2 => ?_, fun c j h0 => ?_⟩
    · rw [mo_restore_88_e, if_pos (by omega)]
      simp (disch := first | omega | decide) only [mx_tn141, mx_tn142, mx_tn143, mx_m, ix_97, ix_141, mx_w_id, Int.toNat_natCast, mx_to10, mx_w_nat, mx_wr_no]
      have p' := p
      simp only [Nat.zero_add] at p'
      first | exact p' | (rw [Int.natCast_add, Int.natCast_one] at p'; exact p')
    · by_cases z : j = i
      · rw [r _ _ (by omega), z]; simp (disch := first | omega | decide) only [mx_wr_no, mx_wr_yes]
      · rw [q0 j (by omega) h2]; simp (disch := first | omega | decide) only [mx_wr_no, mx_wr_yes]
    · rw [r _ _ (by omega)]; simp (disch := first | omega | decide) only [mx_wr_no, mx_wr_yes]
theorem mo_restore_63_s (d n : Nat) : ∀ (k i : Nat) (σ : am_M), i + k = 4 → ∃ σ' : am_M, mo_restore_63 d 141 i σ n = mo_restore_88 d 141 0 σ' n ∧ (∀ j : Nat, i ≤ j → j < 4 → σ' 84 (0 + j) = σ 141 (6 + j)) ∧ ∀ c j : Nat, ¬ (c = 84 ∧ 0 + i ≤ j ∧ j < 0 + 4) → σ' c j = σ c j := by
  intro k
  induction k with
  | zero =>
    intro i σ hi
    exact ⟨σ, by rw [mo_restore_63_e, if_neg (by omega)], fun j h1 h2 => by omega, fun c j _ => rfl⟩
  | succ k ih =>
    intro i σ hi
    obtain ⟨σ', p, q0, r⟩ := ih (i + 1) (am_wr σ 84 (0 + i) (σ 141 (6 + i))) (by omega)
    refine ⟨σ', ?_, fun j h1 h2 => ?_, fun c j h0 => ?_⟩
    · rw [mo_restore_63_e, if_pos (by omega)]
      simp (disch := first | omega | decide) only [mx_tn141, mx_tn142, mx_tn143, mx_m, ix_84, ix_141, mx_w_id, Int.toNat_natCast, mx_to6, mx_w_nat, mx_wr_no]
      have p' := p
      simp only [Nat.zero_add] at p'
      first | exact p' | (rw [Int.natCast_add, Int.natCast_one] at p'; exact p')
    · by_cases z : j = i
      · rw [r _ _ (by omega), z]; simp (disch := first | omega | decide) only [mx_wr_no, mx_wr_yes]
      · rw [q0 j (by omega) h2]; simp (disch := first | omega | decide) only [mx_wr_no, mx_wr_yes]
    · rw [r _ _ (by omega)]; simp (disch := first | omega | decide) only [mx_wr_no, mx_wr_yes]
