/-! PLANS: the class makes them -/
section
variable {n : Nat} {σ μ : am_M} {al : Int} {c : Nat → Int}
abbrev mx_C58 : List Nat := [58, 59, 60, 61, 62, 63, 64, 65]
theorem mx_kf (F : mx_Fq mx_C58 mx_P37 μ σ) (hg : mx_gd μ) (hP : mx_Pv μ) : mx_gd σ ∧ mx_Pv σ ∧ (∀ al d, mx_wl σ al d = mx_wl μ al d) ∧ (∀ d, mx_dd σ d ↔ mx_dd μ d) ∧ σ 37 5 = μ 37 5 ∧ σ 34 = μ 34 := by
  have c : ∀ i, i < 37 ∨ 37 < i → i < 58 → σ i = μ i := fun i q _ => funext fun j => F i j (by simp only [List.mem_cons, List.not_mem_nil, or_false, not_or]; omega) (by unfold mx_P37; simp only [List.mem_cons, List.not_mem_nil, or_false, Prod.mk.injEq]; omega)
  have e : mx_cR σ = mx_cR μ := mx_cR_fr F rfl
  have p1 : ∀ e' i, mx_pe σ e' i = mx_pe μ e' i := fun x i => by unfold mx_pe; rw [e, c 5 (by decide) (by decide), c 7 (by decide) (by decide), c 8 (by decide) (by decide), c 9 (by decide) (by decide)]
  have p2 : ∀ g i, mx_pg σ g i = mx_pg μ g i := fun x i => by unfold mx_pg; rw [e]
  refine ⟨mx_gd_fr hg (fun i j a b _ => by rw [c i (by omega) (by omega)]), ⟨fun x hx hH i hi => ?_, fun g hg' hT => ?_⟩, fun al d => mx_wl_fr F rfl al d, fun d => ?_, F 37 5 (by decide) (by unfold mx_P37; decide), c 34 (by decide) (by decide)⟩
  · rw [c 2 (by decide) (by decide)] at hx
    rw [c 9 (by decide) (by decide)] at hH
    rw [c 5 (by decide) (by decide)] at hi
    rw [c 41 (by decide) (by decide), p1]; exact hP.1 x hx hH i hi
  · rw [c 2 (by decide) (by decide)] at hg'
    rw [c 10 (by decide) (by decide)] at hT
    rw [c 42 (by decide) (by decide), p2, p2]; exact hP.2 g hg' hT
  · unfold mx_dd
    rw [c 2 (by decide) (by decide), c 10 (by decide) (by decide)]
/-- a node as the class writes it, but for its count -/
def mx_fn (μ σ : am_M) (c : Nat → Int) (p i : Nat) (x : Nat × mx_wt) : Prop := σ (p + 1) (8 * i) = x.2.1 ∧ σ (p + 1) (8 * i + 1) = mx_own μ x.1 x.2 ∧ σ (p + 1) (8 * i + 2) = ((x.1 / 30 : Nat) : Int) ∧ σ (p + 1) (8 * i + 3) = ((x.1 % 30 / 6 : Nat) : Int) - 1 ∧ σ (p + 1) (8 * i + 4) = ((x.1 % 6 : Nat) : Int) - 1 ∧ σ (p + 1) (8 * i + 5) = x.2.2.2.2.2.1 ∧ σ (p + 1) (8 * i + 7) = mx_hlf μ x.2 ∧ σ (p + 2) i = c x.1
/-- the way that is told, seen from here -/
def mx_tdw (σ : am_M) (d : Nat) (w : mx_wt) : Prop := mx_tl5 w σ ∧ (σ 37 6 = (d / 30 : Nat) ∧ σ 37 7 = ((d % 30 / 6 : Nat) : Int) - 1 ∧ σ 37 8 = ((d % 6 : Nat) : Int) - 1) ∧ (w.2.1 = -1 → ¬ σ 37 9 < σ 2 3) ∧ (w.2.1 ≠ -1 → σ 37 9 = w.2.1 ∧ 0 ≤ w.2.1 ∧ w.2.1 < σ 2 3)
theorem mx_tdw_fr {d : Nat} {w : mx_wt} (h : mx_tdw μ d w) (h37 : σ 37 = μ 37) (h2 : σ 2 = μ 2) : mx_tdw σ d w := by
  unfold mx_tdw mx_tl5 at h ⊢
  rw [h37, h2]
  exact h
theorem wa_ownOfWay_s (dp : Nat) {d : Nat} {w : mx_wt} (h : mx_tdw σ d w) (h64 : σ 2 3 ≤ 64) (hb : (w.2.1 = -1 ∧ (w.1 = 10 ∨ w.1 = 11)) ∨ w.2.1 ≠ -1) : wa_ownOfWay (dp + 1) σ n = some (mx_own σ d w, σ, n) := by
  obtain ⟨⟨t1, -⟩, ⟨-, t7, t8⟩, t9, t10⟩ := h
  rw [wa_ownOfWay_e, t1, t7, t8]
  unfold mx_own
  by_cases k10 : w.1 = 10
  · rw [if_pos k10, if_pos k10]
  · by_cases k11 : w.1 = 11
    · rw [if_neg k10, if_pos k11, if_neg k10, if_pos k11]
    · rcases hb with q | nv
      · omega
      · obtain ⟨e1, e2, e3⟩ := t10 nv
        have e4 : w.2.1 < 64 := by omega
        rw [if_neg k10, if_neg k11, if_neg k10, if_neg k11, e1, if_pos e3, ix_6 e2 e4]
theorem wa_isOfHalf_s (dp : Nat) {d : Nat} {w : mx_wt} (h : mx_tdw σ d w) (h64 : σ 2 3 ≤ 64) : wa_isOfHalf (dp + 1) σ n = some (mx_hlf σ w, σ, n) := by
  obtain ⟨-, -, t9, t10⟩ := h
  rw [wa_isOfHalf_e]
  unfold mx_hlf
  by_cases z : w.2.1 = -1
  · rw [if_neg (t9 z), if_pos z]
  · obtain ⟨e1, e2, e3⟩ := t10 z
    have e4 : w.2.1 < 64 := by omega
    rw [e1, if_pos e3, if_neg z, ix_5 e2 e4]
    split <;> rfl
theorem pl_note_s {p : Nat} (hp : p = 58 ∨ p = 62) (dp i : Nat) (hi : i < 120) {d : Nat} {w : mx_wt} (h : mx_tdw σ d w) (h64 : σ 2 3 ≤ 64) (hb : (w.2.1 = -1 ∧ (w.1 = 10 ∨ w.1 = 11)) ∨ w.2.1 ≠ -1) :
    ∃ σ' : am_M, pl_note (dp + 2) p i σ n = some (0, σ', n) ∧ (∀ a x, (a = p + 1 → x < 8 * i ∨ 8 * i + 8 ≤ x) → σ' a x = σ a x) ∧ σ' (p + 1) (8 * i) = w.1 ∧ σ' (p + 1) (8 * i + 1) = mx_own σ d w ∧ σ' (p + 1) (8 * i + 2) = ((d / 30 : Nat) : Int) ∧ σ' (p + 1) (8 * i + 3) = ((d % 30 / 6 : Nat) : Int) - 1 ∧ σ' (p + 1) (8 * i + 4) = ((d % 6 : Nat) : Int) - 1 ∧ σ' (p + 1) (8 * i + 5) = w.2.2.2.2.1 ∧ σ' (p + 1) (8 * i + 7) = mx_hlf σ w := by
  have p0 : ¬ (p : Int) < 0 := by omega
  have e0 : am_w (am_w ((i : Int) * 8) + 0) = ((8 * i : Nat) : Int) := by rw [mx_w_id (z := (i : Int) * 8) (by omega) (by omega), mx_w_id (by omega) (by omega)]; omega
  have e1 : am_w (am_w ((i : Int) * 8) + 1) = ((8 * i + 1 : Nat) : Int) := by rw [mx_w_id (z := (i : Int) * 8) (by omega) (by omega), mx_w_id (by omega) (by omega)]; omega
  have e2 : am_w (am_w ((i : Int) * 8) + 2) = ((8 * i + 2 : Nat) : Int) := by rw [mx_w_id (z := (i : Int) * 8) (by omega) (by omega), mx_w_id (by omega) (by omega)]; omega
  have e3 : am_w (am_w ((i : Int) * 8) + 3) = ((8 * i + 3 : Nat) : Int) := by rw [mx_w_id (z := (i : Int) * 8) (by omega) (by omega), mx_w_id (by omega) (by omega)]; omega
  have e4 : am_w (am_w ((i : Int) * 8) + 4) = ((8 * i + 4 : Nat) : Int) := by rw [mx_w_id (z := (i : Int) * 8) (by omega) (by omega), mx_w_id (by omega) (by omega)]; omega
  have e5 : am_w (am_w ((i : Int) * 8) + 5) = ((8 * i + 5 : Nat) : Int) := by rw [mx_w_id (z := (i : Int) * 8) (by omega) (by omega), mx_w_id (by omega) (by omega)]; omega
  have e6 : am_w (am_w ((i : Int) * 8) + 6) = ((8 * i + 6 : Nat) : Int) := by rw [mx_w_id (z := (i : Int) * 8) (by omega) (by omega), mx_w_id (by omega) (by omega)]; omega
  have e7 : am_w (am_w ((i : Int) * 8) + 7) = ((8 * i + 7 : Nat) : Int) := by rw [mx_w_id (z := (i : Int) * 8) (by omega) (by omega), mx_w_id (by omega) (by omega)]; omega
  have X : ∀ (k : Nat) (x : Option am_R), k < 960 → am_ix ((p + 1 : Nat) : Int) (k : Int) x = x := fun k x hk => (mx_ixP hp (by omega)).1 (by omega)
  have fp := (mx_finP hp).1
  have T := h
  obtain ⟨⟨t1, -, -, t2, -⟩, ⟨t6, t7, t8⟩, -, -⟩ := h
  have n37 : 37 ≠ p + 1 := by omega
  rw [pl_note_e, mx_if_t p0, Int.toNat_natCast, fp, e0, X (8 * i) _ (by omega), mx_m, t1, Int.toNat_natCast, Int.toNat_natCast, mx_if_t p0]
  rw [wa_ownOfWay_s dp (mx_tdw_fr T (mx_wr_ne n37) (mx_wr_ne (by omega))) (by rw [mx_wr_ne (by omega)]; exact h64) hb, Option.bind_some]
  dsimp only
  have own : mx_own (am_wr σ (p + 1) (8 * i) w.1) d w = mx_own σ d w := by unfold mx_own; rw [mx_wr_ne (by omega)]
  rw [own, e1, X (8 * i + 1) _ (by omega), mx_m, Int.toNat_natCast, mx_if_t p0, e2, X (8 * i + 2) _ (by omega), mx_m, Int.toNat_natCast, mx_wr_ne n37, mx_wr_ne n37, t6, mx_if_t p0, e3, X (8 * i + 3) _ (by omega), mx_m, Int.toNat_natCast, mx_wr_ne n37, mx_wr_ne n37, mx_wr_ne n37, t7, mx_if_t p0, e4, X (8 * i + 4) _ (by omega), mx_m, Int.toNat_natCast, mx_wr_ne n37, mx_wr_ne n37, mx_wr_ne n37, mx_wr_ne n37, t8, mx_if_t p0, e5, X (8 * i + 5) _ (by omega), mx_m, Int.toNat_natCast, mx_wr_ne n37, mx_wr_ne n37, mx_wr_ne n37, mx_wr_ne n37, mx_wr_ne n37, t2, mx_if_t p0, e6, X (8 * i + 6) _ (by omega), mx_m, Int.toNat_natCast, mx_if_t p0]
  clear e0 e1 e2 e3 e4 e5 e6
  generalize hσ : am_wr (am_wr (am_wr (am_wr (am_wr (am_wr (am_wr σ (p + 1) (8 * i) w.1) (p + 1) (8 * i + 1) (mx_own σ d w)) (p + 1) (8 * i + 2) ((d / 30 : Nat) : Int)) (p + 1) (8 * i + 3) (((d % 30 / 6 : Nat) : Int) - 1)) (p + 1) (8 * i + 4) (((d % 6 : Nat) : Int) - 1)) (p + 1) (8 * i + 5) w.2.2.2.2.1) (p + 1) (8 * i + 6) 1 = σ7
  have O : ∀ a x, (a = p + 1 → x < 8 * i ∨ 8 * i + 8 ≤ x) → σ7 a x = σ a x := fun a x q => by
    rw [← hσ]
    unfold am_wr
    rw [if_neg (fun z => by have := q z.1; omega), if_neg (fun z => by have := q z.1; omega), if_neg (fun z => by have := q z.1; omega), if_neg (fun z => by have := q z.1; omega), if_neg (fun z => by have := q z.1; omega), if_neg (fun z => by have := q z.1; omega), if_neg (fun z => by have := q z.1; omega)]
  have V : σ7 (p + 1) (8 * i) = w.1 ∧ σ7 (p + 1) (8 * i + 1) = mx_own σ d w ∧ σ7 (p + 1) (8 * i + 2) = ((d / 30 : Nat) : Int) ∧ σ7 (p + 1) (8 * i + 3) = ((d % 30 / 6 : Nat) : Int) - 1 ∧ σ7 (p + 1) (8 * i + 4) = ((d % 6 : Nat) : Int) - 1 ∧ σ7 (p + 1) (8 * i + 5) = w.2.2.2.2.1 := by
    rw [← hσ]
    refine ⟨?_, ?_, ?_, ?_, ?_, ?_⟩
    · rw [mx_wr_off (by omega), mx_wr_off (by omega), mx_wr_off (by omega), mx_wr_off (by omega), mx_wr_off (by omega), mx_wr_off (by omega), mx_wr_at]
    · rw [mx_wr_off (by omega), mx_wr_off (by omega), mx_wr_off (by omega), mx_wr_off (by omega), mx_wr_off (by omega), mx_wr_at]
    · rw [mx_wr_off (by omega), mx_wr_off (by omega), mx_wr_off (by omega), mx_wr_off (by omega), mx_wr_at]
    · rw [mx_wr_off (by omega), mx_wr_off (by omega), mx_wr_off (by omega), mx_wr_at]
    · rw [mx_wr_off (by omega), mx_wr_off (by omega), mx_wr_at]
    · rw [mx_wr_off (by omega), mx_wr_at]
  clear hσ
  have k7 : ∀ a, a ≠ p + 1 → σ7 a = σ a := fun a q => funext fun x => O a x (fun z => absurd z q)
  have hlf : mx_hlf σ7 w = mx_hlf σ w := by unfold mx_hlf; rw [k7 5 (by omega)]
  have fin : ∀ v : Int, v = mx_hlf σ w → ∃ σ' : am_M, am_ix ((p + 1 : Nat) : Int) ((8 * i + 7 : Nat) : Int) (am_m (am_wr σ7 ((p + 1 : Nat) : Int).toNat ((8 * i + 7 : Nat) : Int).toNat v) fun σ8 => some (0, σ8, n)) = some (0, σ', n) ∧ (∀ a x, (a = p + 1 → x < 8 * i ∨ 8 * i + 8 ≤ x) → σ' a x = σ a x) ∧ σ' (p + 1) (8 * i) = w.1 ∧ σ' (p + 1) (8 * i + 1) = mx_own σ d w ∧ σ' (p + 1) (8 * i + 2) = ((d / 30 : Nat) : Int) ∧ σ' (p + 1) (8 * i + 3) = ((d % 30 / 6 : Nat) : Int) - 1 ∧ σ' (p + 1) (8 * i + 4) = ((d % 6 : Nat) : Int) - 1 ∧ σ' (p + 1) (8 * i + 5) = w.2.2.2.2.1 ∧ σ' (p + 1) (8 * i + 7) = mx_hlf σ w := fun v hv => by
    refine ⟨am_wr σ7 (p + 1) (8 * i + 7) v, by rw [X (8 * i + 7) _ (by omega), mx_m, Int.toNat_natCast, Int.toNat_natCast], fun a x q => ?_, ?_, ?_, ?_, ?_, ?_, ?_, ?_⟩
    · rw [← O a x q]
      unfold am_wr
      rw [if_neg (fun z => by have := q z.1; omega)]
    · rw [mx_wr_off (by omega)]; exact V.1
    · rw [mx_wr_off (by omega)]; exact V.2.1
    · rw [mx_wr_off (by omega)]; exact V.2.2.1
    · rw [mx_wr_off (by omega)]; exact V.2.2.2.1
    · rw [mx_wr_off (by omega)]; exact V.2.2.2.2.1
    · rw [mx_wr_off (by omega)]; exact V.2.2.2.2.2
    · rw [mx_wr_at]; exact hv
  rw [wa_isOfHalf_s dp (mx_tdw_fr T (k7 37 n37) (k7 2 (by omega))) (by rw [k7 2 (by omega)]; exact h64), Option.bind_some]
  dsimp only
  rw [e7, hlf]
  by_cases z : mx_hlf σ w = 0
  · rw [if_pos z]
    exact fin 0 z.symm
  · rw [if_neg z]
    refine fin 1 ?_
    unfold mx_hlf at z ⊢
    split at z
    · exact absurd rfl z
    · rename_i q
      rw [if_neg q]
      split at z
      · rename_i q2
        rw [if_pos q2]
      · exact absurd rfl z
end
