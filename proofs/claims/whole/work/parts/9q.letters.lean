/-! READ: letters -/
section
variable {n : Nat} {σ τ : am_M} {T : Nat → Int}
theorem mx_wr_self {a k : Nat} {v : Int} (h : σ a k = v) : am_wr σ a k v = σ := by
  funext i j
  unfold am_wr
  split
  · rename_i q
    rw [q.1, q.2, h]
  · rfl
/-- the letters of a row -/
def mx_tx (E : Nat → Int) (S i : Nat) : Int := if i < S then am_w (E i) else -1
/-- how far a word goes -/
def mx_mtc (T : Nat → Int) : Nat → List Int → Nat × Bool
  | a, [] => (a, true)
  | a, c :: R => if T a = c then mx_mtc T (a + 1) R else (a, false)
theorem mx_mtc_ge (T : Nat → Int) : ∀ (R : List Int) (a : Nat), a ≤ (mx_mtc T a R).1 ∧ ((mx_mtc T a R).2 = true → (mx_mtc T a R).1 = a + R.length) ∧ (mx_mtc T a R).1 ≤ a + R.length := by
  intro R
  induction R with
  | nil => intro a; exact ⟨Nat.le_refl _, fun _ => rfl, Nat.le_refl _⟩
  | cons c R ih =>
    intro a
    have e : mx_mtc T a (c :: R) = if T a = c then mx_mtc T (a + 1) R else (a, false) := rfl
    rw [e]
    split
    · obtain ⟨h1, h2, h3⟩ := ih (a + 1)
      rw [List.length_cons]
      exact ⟨by omega, fun q => by rw [h2 q]; omega, by omega⟩
    · exact ⟨Nat.le_refl _, fun q => (by cases q), Nat.le_add_right _ _⟩
theorem mx_mtc_le {S : Nat} (hT : ∀ i, S ≤ i → T i = -1) : ∀ (R : List Int) (a : Nat), (∀ c ∈ R, 0 ≤ c) → a ≤ S → (mx_mtc T a R).1 ≤ S := by
  intro R
  induction R with
  | nil => intro a _ h; exact h
  | cons c R ih =>
    intro a hc h
    have e : mx_mtc T a (c :: R) = if T a = c then mx_mtc T (a + 1) R else (a, false) := rfl
    rw [e]
    split
    · rename_i q
      refine ih (a + 1) (fun x hx => hc x (List.mem_cons_of_mem _ hx)) ?_
      by_cases z : S ≤ a
      · have := hT a z
        have := hc c List.mem_cons_self
        omega
      · omega
    · exact h
/-- the class's letter -/
theorem sh_letterAt_s (d s S a : Nat) (hs : s < 8) (ha : a ≤ 1000) (h : σ (66 + 2 * s) 1 = S) (hS : S ≤ 160) : sh_letterAt (d + 2) ((66 + 2 * s : Nat) : Int) a σ n = some (mx_tx (σ (67 + 2 * s)) S a, σ, n) := by
  have s0 : ¬ ((66 + 2 * s : Nat) : Int) < 0 := by omega
  rw [sh_letterAt_e, mx_if_t s0, sh_hasElements_s _ _ _ _ _ _ ⟨by omega, by omega⟩ (by decide), Option.bind_some, h]
  dsimp only
  unfold mx_tx
  by_cases z : a < S
  · rw [mx_bi_p ⟨by omega, by decide, by omega⟩, mx_if_t s0, if_pos z]
    simp only [Int.toNat_natCast, mx_finS hs]
    rw [mx_ixS hs (by omega) (by omega)]
  · rw [mx_bi_n (fun q => by omega), if_neg z]
theorem re_letter_s (d s S a : Nat) (hs : s < 8) (ha : a ≤ 1000) (h1 : σ 43 1 = ((66 + 2 * s : Nat) : Int)) (h2 : σ 43 2 = a) (h : σ (66 + 2 * s) 1 = S) (hS : S ≤ 160) :
    re_letter (d + 3) σ n = some (mx_tx (σ (67 + 2 * s)) S a, σ, n) := by
  have s0 : ¬ ((66 + 2 * s : Nat) : Int) < 0 := by omega
  rw [re_letter_e, h1, h2, if_neg s0, mx_if_t s0, sh_letterAt_s d s S a hs ha h hS, Option.bind_some]
theorem re_take_s (d s S a : Nat) (c : Int) (hs : s < 8) (ha : a ≤ 900) (h1 : σ 43 1 = ((66 + 2 * s : Nat) : Int)) (h2 : σ 43 2 = a) (h : σ (66 + 2 * s) 1 = S) (hS : S ≤ 160) :
    re_take (d + 4) c σ n = if mx_tx (σ (67 + 2 * s)) S a = c then some (1, am_wr σ 43 2 ((a + 1 : Nat) : Int), n) else some (0, σ, n) := by
  have a1 : (a : Int) < 1000 := by omega
  rw [re_take_e, re_letter_s d s S a hs (by omega) h1 h2 h hS, Option.bind_some]
  dsimp only
  rw [mx_m, h2, mx_w_nat a1]
/-- the class takes a word -/
theorem re_beginOne_46_s (dp s S k : Nat) (v1 v2 : Int) (hk : k < 8) (hs : s < 8) (hS : S ≤ 160) : ∀ (R A : List Int) (a : Nat) (σ : am_M), mx_ww k = A ++ R → a + R.length ≤ 900 → σ 43 1 = ((66 + 2 * s : Nat) : Int) → σ 43 2 = a → σ (66 + 2 * s) 1 = S →
    re_beginOne_46 (dp + 4) v1 v2 ((2000 + k : Nat) : Int) (A.length : Nat) σ n = if (mx_mtc (mx_tx (σ (67 + 2 * s)) S) a R).2 = true then re_beginOne_46 (dp + 4) v1 v2 ((2000 + k : Nat) : Int) ((mx_ww k).length : Nat) (am_wr σ 43 2 ((mx_mtc (mx_tx (σ (67 + 2 * s)) S) a R).1 : Nat)) n else some (0, am_wr σ 43 2 ((mx_mtc (mx_tx (σ (67 + 2 * s)) S) a R).1 : Nat), n) := by
  have v0 : ¬ ((2000 + k : Nat) : Int) < 0 := by omega
  intro R
  induction R with
  | nil =>
    intro A a σ hA ha h1 h2 h
    rw [if_pos (show (mx_mtc (mx_tx (σ (67 + 2 * s)) S) a []).2 = true from rfl), show ((mx_mtc (mx_tx (σ (67 + 2 * s)) S) a []).1 : Nat) = a from rfl, mx_wr_self h2, show (mx_ww k).length = A.length by rw [hA, List.append_nil]]
  | cons c R ih =>
    intro A a σ hA ha h1 h2 h
    rw [List.length_cons] at ha
    have l : (mx_ww k).length = A.length + (R.length + 1) := by rw [hA, List.length_append, List.length_cons]
    have l6 : (mx_ww k).length ≤ 6 := by
      have : ∀ k, k < 8 → (mx_ww k).length ≤ 6 := by decide
      exact this k hk
    have hv : (mx_ww k)[A.length]? = some c := by rw [hA, List.getElem?_append_right (Nat.le_refl _), Nat.sub_self]; rfl
    have e : mx_mtc (mx_tx (σ (67 + 2 * s)) S) a (c :: R) = if mx_tx (σ (67 + 2 * s)) S a = c then mx_mtc (mx_tx (σ (67 + 2 * s)) S) (a + 1) R else (a, false) := rfl
    rw [e, re_beginOne_46_e, mx_if_t v0, st_length_s (dp + 2) k hk, Option.bind_some]
    dsimp only
    rw [if_pos (show ((A.length : Nat) : Int) < ((mx_ww k).length : Nat) by omega), mx_if_t v0, st_charAt_s dp k A.length hk hv, Option.bind_some]
    dsimp only
    rw [re_take_s dp s S a c hs (by omega) h1 h2 h hS]
    by_cases z : mx_tx (σ (67 + 2 * s)) S a = c
    · have := ih (A ++ [c]) (a + 1) (am_wr σ 43 2 ((a + 1 : Nat) : Int)) (by rw [hA, List.append_assoc]; rfl) (by omega) (by rw [mx_wr_off (by decide)]; exact h1) (by rw [mx_wr_at]) (by rw [mx_wr_ne (by omega)]; exact h)
      rw [List.length_append, List.length_singleton, mx_wr_ne (show 67 + 2 * s ≠ 43 by omega), mx_wr_wr] at this
      rw [if_pos z, if_pos z, Option.bind_some]
      dsimp only
      rw [if_neg (by decide), mx_w_nat (by omega)]
      exact this
    · rw [if_neg z, if_neg z, Option.bind_some]
      dsimp only
      rw [if_pos rfl, if_neg (by decide), mx_wr_self h2]
/-- what the reference reads from -/
def mx_rtx (τ : am_M) (T : Nat → Int) (S a : Nat) : Prop := τ 82 69 = S ∧ τ 82 70 = a ∧ τ 82 6 = -1 ∧ (∀ i, i < S → τ 136 i = T i) ∧ (∀ i, S ≤ i → T i = -1) ∧ a ≤ S ∧ S ≤ 160
theorem mo_goes_s (d S a : Nat) (c : Int) (hc : 0 ≤ c) (h : mx_rtx τ T S a) : mo_goes (d + 1) c τ n = if T a = c then some (1, am_wr τ 82 70 ((a + 1 : Nat) : Int), n) else some (0, am_wr τ 82 6 (a : Nat), n) := by
  obtain ⟨h1, h2, h3, h4, h5, h6, h7⟩ := h
  rw [mo_goes_e, if_pos h3]
  by_cases z : a < S
  · rw [if_pos (by rw [h2, h1]; omega), h2, ix_136 (by omega) (by omega), Int.toNat_natCast, h4 a z]
    by_cases y : T a = c
    · rw [if_pos y, if_pos y, mx_m, mx_w_nat (by omega)]
    · rw [if_neg y, if_neg y, mx_m]
  · have := h5 a (by omega)
    rw [if_neg (by rw [h2, h1]; omega), if_neg (by omega), mx_m, h2]
theorem mo_goes_f (d : Nat) (c : Int) (h : τ 82 6 ≠ -1) : mo_goes (d + 1) c τ n = some (0, τ, n) := by rw [mo_goes_e, if_neg h]
theorem mo_goes2_f (dp k : Nat) (hk : k < 8) (h : τ 82 6 ≠ -1) : ∀ (R A : List Int), mx_ww k = A ++ R → mo_goes2_2 (dp + 4) ((2000 + k : Nat) : Int) (A.length : Nat) τ n = some (0, τ, n) := by
  have v0 : ¬ ((2000 + k : Nat) : Int) < 0 := by omega
  intro R
  induction R with
  | nil =>
    intro A hA
    have l : (mx_ww k).length = A.length := by rw [hA, List.append_nil]
    rw [mo_goes2_2_e, mx_if_t v0, st_length_s (dp + 2) k hk, Option.bind_some]
    dsimp only
    rw [if_neg (by omega), if_neg h]
  | cons c R ih =>
    intro A hA
    have l : (mx_ww k).length = A.length + (R.length + 1) := by rw [hA, List.length_append, List.length_cons]
    have l6 : (mx_ww k).length ≤ 6 := by
      have : ∀ k, k < 8 → (mx_ww k).length ≤ 6 := by decide
      exact this k hk
    have hv : (mx_ww k)[A.length]? = some c := by rw [hA, List.getElem?_append_right (Nat.le_refl _), Nat.sub_self]; rfl
    have := ih (A ++ [c]) (by rw [hA, List.append_assoc]; rfl)
    rw [List.length_append, List.length_singleton] at this
    rw [mo_goes2_2_e, mx_if_t v0, st_length_s (dp + 2) k hk, Option.bind_some]
    dsimp only
    rw [if_pos (by omega), mx_if_t v0, st_charAt_s dp k A.length hk hv, Option.bind_some]
    dsimp only
    rw [mo_goes_f (dp + 3) c h, Option.bind_some]
    dsimp only
    rw [mx_w_nat (by omega)]
    exact this
theorem mo_goes2_s (dp k S : Nat) (hk : k < 8) : ∀ (R A : List Int) (a : Nat) (τ : am_M), mx_ww k = A ++ R → (∀ c ∈ R, 0 ≤ c) → mx_rtx τ T S a →
    mo_goes2_2 (dp + 4) ((2000 + k : Nat) : Int) (A.length : Nat) τ n = if (mx_mtc T a R).2 = true then some (1, am_wr τ 82 70 ((mx_mtc T a R).1 : Nat), n) else some (0, am_wr (am_wr τ 82 70 ((mx_mtc T a R).1 : Nat)) 82 6 ((mx_mtc T a R).1 : Nat), n) := by
  have v0 : ¬ ((2000 + k : Nat) : Int) < 0 := by omega
  intro R
  induction R with
  | nil =>
    intro A a τ hA hc h
    have l : (mx_ww k).length = A.length := by rw [hA, List.append_nil]
    rw [if_pos (show (mx_mtc T a []).2 = true from rfl), show ((mx_mtc T a []).1 : Nat) = a from rfl, mx_wr_self h.2.1, mo_goes2_2_e, mx_if_t v0, st_length_s (dp + 2) k hk, Option.bind_some]
    dsimp only
    rw [if_neg (by omega), if_pos h.2.2.1]
  | cons c R ih =>
    intro A a τ hA hc h
    have l : (mx_ww k).length = A.length + (R.length + 1) := by rw [hA, List.length_append, List.length_cons]
    have l6 : (mx_ww k).length ≤ 6 := by
      have : ∀ k, k < 8 → (mx_ww k).length ≤ 6 := by decide
      exact this k hk
    have hv : (mx_ww k)[A.length]? = some c := by rw [hA, List.getElem?_append_right (Nat.le_refl _), Nat.sub_self]; rfl
    have c0 := hc c List.mem_cons_self
    have e : mx_mtc T a (c :: R) = if T a = c then mx_mtc T (a + 1) R else (a, false) := rfl
    rw [e, mo_goes2_2_e, mx_if_t v0, st_length_s (dp + 2) k hk, Option.bind_some]
    dsimp only
    rw [if_pos (show ((A.length : Nat) : Int) < ((mx_ww k).length : Nat) by omega), mx_if_t v0, st_charAt_s dp k A.length hk hv, Option.bind_some]
    dsimp only
    rw [mo_goes_s (dp + 3) S a c c0 h]
    by_cases z : T a = c
    · obtain ⟨h1, h2, h3, h4, h5, h6, h7⟩ := h
      have aS : a < S := by
        by_cases y : a < S
        · exact y
        · have := h5 a (by omega); omega
      have := ih (A ++ [c]) (a + 1) (am_wr τ 82 70 ((a + 1 : Nat) : Int)) (by rw [hA, List.append_assoc]; rfl) (fun x hx => hc x (List.mem_cons_of_mem _ hx)) ⟨by rw [mx_wr_off (by decide)]; exact h1, by rw [mx_wr_at], by rw [mx_wr_off (by decide)]; exact h3, fun i hi => by rw [mx_wr_ne (by decide)]; exact h4 i hi, h5, aS, h7⟩
      rw [List.length_append, List.length_singleton, mx_wr_wr] at this
      rw [if_pos z, if_pos z, Option.bind_some]
      dsimp only
      rw [mx_w_nat (by omega)]
      exact this
    · have := mo_goes2_f (n := n) (τ := am_wr τ 82 6 (a : Nat)) dp k hk (by rw [mx_wr_at]; omega) R (A ++ [c]) (by rw [hA, List.append_assoc]; rfl)
      rw [List.length_append, List.length_singleton] at this
      rw [if_neg z, if_neg z, Option.bind_some]
      dsimp only
      rw [mx_w_nat (by omega), if_neg (by decide), mx_wr_self (show τ 82 70 = ((a : Nat) : Int) from h.2.1)]
      exact this
theorem mo_digit_s (d S a : Nat) (u : Int) (hu : 0 ≤ u ∧ u ≤ 8) (h : mx_rtx τ T S a) (hT : -2147483648 ≤ T a ∧ T a < 2147483648) : mo_digit (d + 1) u τ n = if 48 ≤ T a ∧ T a < 48 + u then some (T a - 48, am_wr τ 82 70 ((a + 1 : Nat) : Int), n) else some (0, am_wr τ 82 6 (a : Nat), n) := by
  obtain ⟨h1, h2, h3, h4, h5, h6, h7⟩ := h
  have u1 : am_w (48 + u) = 48 + u := mx_w_id (by omega) (by omega)
  rw [mo_digit_e, if_pos h3, u1]
  clear u1
  by_cases z : a < S
  · have I : (0 : Int) ≤ (a : Int) ∧ (a : Int) < 160 := ⟨by omega, by omega⟩
    rw [if_pos (by rw [h2, h1]; omega), h2, ix_136 I.1 I.2, Int.toNat_natCast, h4 a z]
    by_cases y : T a < 48
    · rw [if_pos y, if_neg (by omega), mx_m]
    · rw [if_neg y, ix_136 I.1 I.2]
      by_cases x : T a < 48 + u
      · have w1 : am_w (((a + 1 : Nat) : Int) - 1) = (a : Int) := by rw [mx_w_id (by omega) (by omega)]; omega
        rw [if_pos x, if_pos ⟨by omega, x⟩, mx_m, mx_w_nat (by omega), mx_wr_at, w1, ix_136 I.1 I.2, Int.toNat_natCast, mx_wr_ne (show (136 : Nat) ≠ 82 by decide), h4 a z, mx_w_id (by omega) (by omega)]
      · rw [if_neg x, if_neg (by omega), mx_m]
  · have := h5 a (by omega)
    rw [if_neg (by rw [h2, h1]; omega), if_neg (by omega), mx_m, h2]
end
