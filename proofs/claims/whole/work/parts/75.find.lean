/-! the NEXT FIRING -/
def mx_tk (k : Int) (r : Nat) : Bool := if r = 0 ∨ r = 1 then decide (k = 5) else if r = 2 ∨ r = 3 then decide (k = 3) else if r = 4 then decide (k = 3 ∨ k = 4) else if r = 5 then decide (k = 4) else decide (k = 6)
theorem mx_tk_c : ∀ r : Nat, r < 7 → ∀ k : Nat, k < 7 → k ≠ 0 → k ≠ 2 → (am_and (am_shr (am_kc 1001 r) (k : Int)) 1 = 1 ↔ mx_tk (k : Int) r = true) := by decide +kernel
def mx_cd (μ : am_M) (W : Nat → Int) (e r : Nat) (f : Int) : Prop := (e : Int) < μ 2 3 ∧ μ 9 e ≠ -1 ∧ r < 7 ∧ mx_tk (μ 5 e) r = true ∧
  ((r = 0 ∧ f = -1 ∧ W (455 * e + 64) = 0) ∨ (1 ≤ r ∧ ∃ f' : Nat, f = f' ∧ (f' : Int) < μ 2 3 ∧ μ 9 f' = μ 7 e ∧ mx_fp (μ 5) (μ 6) (μ 7) (μ 8) (μ 11) r e f' = true ∧ W (455 * e + 65 * r + f') = 0))
def mx_ltc (e r : Nat) (f : Int) (e' r' : Nat) (f' : Int) : Prop := e < e' ∨ (e = e' ∧ (r < r' ∨ (r = r' ∧ f < f')))
def mx_1st (μ : am_M) (W : Nat → Int) (e r : Nat) (f : Int) : Prop := mx_cd μ W e r f ∧ ∀ e' r' f', mx_cd μ W e' r' f' → ¬ mx_ltc e' r' f' e r f
theorem mx_1st_u {μ : am_M} {W : Nat → Int} {e r e' r' : Nat} {f f' : Int} (h : mx_1st μ W e r f) (h' : mx_1st μ W e' r' f') : e = e' ∧ r = r' ∧ f = f' := by
  have a := h.2 e' r' f' h'.1
  have b := h'.2 e r f h.1
  unfold mx_ltc at a b
  omega
theorem mx_land_bit (v : Int) (f : Nat) (hf : f < 64) : am_land v (am_lshl 1 (f : Int)) = 0 ↔ mx_bt v f = false := by
  constructor
  · intro h
    have := mx_bt_and v (am_lshl 1 (f : Int)) f
    rw [h, mx_bt_0, mx_bt_one f hf f hf, decide_eq_true rfl, Bool.and_true] at this
    exact this.symm
  · intro h
    refine mx_bt_ext (mx_land_rg _ _) ⟨by decide, by decide⟩ fun e he => ?_
    rw [mx_bt_and, mx_bt_0, mx_bt_one f hf e he]
    by_cases q : e = f
    · rw [q, h]; rfl
    · rw [decide_eq_false q, Bool.and_false]
theorem mx_cmp0 {a b : Int} : am_cmp a b = 0 ↔ a = b := by
  unfold am_cmp
  by_cases h : a < b
  · rw [if_pos h]; omega
  · rw [if_neg h]
    by_cases q : a = b
    · rw [if_pos q]; omega
    · rw [if_neg q]; omega
theorem mx_zero_bits {v : Int} (hr : -9223372036854775808 ≤ v ∧ v < 9223372036854775808) (h : ∀ e, e < 64 → mx_bt v e = false) : v = 0 :=
  mx_bt_ext hr ⟨by decide, by decide⟩ fun e he => by rw [h e he, mx_bt_0]
section
variable {n : Nat} {μ : am_M} {W : Nat → Int}
/-- as far as the class has come -/
def mx_fd (μ : am_M) (W : Nat → Int) (σ : am_M) : Prop := mx_Fq [13] [(28, 1), (28, 2), (28, 3)] μ σ ∧ mx_Fs μ (σ 13) W
def mx_fres (μ : am_M) (W : Nat → Int) (n : Nat) (x : Option am_R) : Prop := ∃ (b : Bool) (σ' : am_M), x = some (mx_b b, σ', n) ∧ mx_fd μ W σ' ∧ (b = false → ∀ e r f, ¬ mx_cd μ W e r f) ∧ (b = true → ∃ (e r : Nat) (f : Int), σ' 28 1 = e ∧ σ' 28 2 = r ∧ σ' 28 3 = f ∧ mx_1st μ W e r f)
def mx_pres (μ : am_M) (W : Nat → Int) (e r n : Nat) (x : Option am_R) : Prop := ∃ (b : Bool) (σ' : am_M), x = some (mx_b b, σ', n) ∧ mx_fd μ W σ' ∧ σ' 28 1 = e ∧ σ' 28 2 = r ∧ (b = false → ∀ f, ¬ mx_cd μ W e r f) ∧ (b = true → ∃ f : Int, σ' 28 3 = f ∧ mx_cd μ W e r f ∧ ∀ f', mx_cd μ W e r f' → ¬ f' < f)
theorem mx_fd_c {σ : am_M} (h : mx_fd μ W σ) : (∀ i, i ≠ 13 → i ≠ 28 → σ i = μ i) := fun i a b => funext fun j => h.1 i j (by simp only [List.mem_cons, List.not_mem_nil, or_false]; exact a) (by simp only [List.mem_cons, List.not_mem_nil, or_false, Prod.mk.injEq]; omega)
theorem fi_isPair_s (hg : mx_gd μ) (d : Nat) {σ : am_M} (hc : ∀ i, i ≠ 13 → i ≠ 28 → σ i = μ i) (e r f : Nat) (h1 : σ 28 1 = e) (h2 : σ 28 2 = r) (h3 : σ 28 3 = f) (hr1 : 1 ≤ r) (hr : r < 7) (he : (e : Int) < μ 2 3) (hf : (f : Int) < μ 2 3) (hH : μ 9 f ≠ -1) :
    fi_isPair (d + 4) σ n = some (mx_b (mx_fp (μ 5) (μ 6) (μ 7) (μ 8) (μ 11) r e f), σ, n) := by
  have h64 := hg.2.1
  have w2 := hg.1.2.1
  have c5 := hc 5 (by decide) (by decide)
  have c6 := hc 6 (by decide) (by decide)
  have c7 := hc 7 (by decide) (by decide)
  have c8 := hc 8 (by decide) (by decide)
  have c11 := hc 11 (by decide) (by decide)
  have c2 := hc 2 (by decide) (by decide)
  have s := hg.1.2.2.1.1 f hf hH
  have col : ∀ v : Int, v = -1 ∨ (0 ≤ v ∧ v < μ 2 9 ∧ μ 10 v.toNat = v) → (if 0 ≤ v ∧ v < σ 2 9 then σ 11 v.toNat else 0) = mx_yc (μ 11) v := fun v hv => by
    unfold mx_yc
    rw [c2, c11]
    rcases hv with q | q
    · rw [if_neg (by omega), if_neg (by omega)]
    · rw [if_pos ⟨q.1, q.2.1⟩, if_pos q.1]
  have l128 : fi_isPair_128 (d + 3) (μ 6 e) σ n = some (mx_b (mx_hc (mx_yc (μ 11) (μ 7 f)) (am_w (Int.tdiv (μ 6 e) 2))), σ, n) := by
    rw [fi_isPair_128_e, h3, ix_7 (by omega) (by omega), Int.toNat_natCast, me_columnsOf_s _ _ _ _ (by rw [c2]; omega), Option.bind_some, c7, col _ s.2.1]
    rw [pm_hasColumn_s, Option.bind_some]
    cases mx_hc (mx_yc (μ 11) (μ 7 f)) (am_w (Int.tdiv (μ 6 e) 2)) <;> rfl
  rw [fi_isPair_e, h1, h2, h3, ix_5 (by omega) (by omega), ix_6 (by omega) (by omega), ix_6 (by omega) (by omega), Int.toNat_natCast, Int.toNat_natCast, c5, c6, l128]
  unfold mx_fp
  by_cases r1 : r = 1
  · rw [if_pos (by omega), if_pos r1]
    by_cases k5 : μ 5 f = 5
    · rw [if_pos k5, decide_eq_true k5, Bool.true_and, ix_8 (by omega) (by omega), me_columnsOf_s _ _ _ _ (by rw [c2]; omega), Option.bind_some, c8, col _ s.2.2]
      rw [pm_hasColumn_s, Option.bind_some]
      cases mx_hc (mx_yc (μ 11) (μ 8 f)) (μ 6 e) <;> rfl
    · rw [if_neg k5, decide_eq_false k5]; rfl
  rw [if_neg (by omega), if_neg r1]
  by_cases r2 : r = 2
  · rw [if_pos (by omega), if_pos r2]
    by_cases k5 : μ 5 f = 5
    · rw [if_pos k5, decide_eq_true k5]; rfl
    · rw [if_neg k5, decide_eq_false k5]
      by_cases k6 : μ 5 f = 6
      · rw [if_pos k6, decide_eq_true k6]; rfl
      · rw [if_neg k6, decide_eq_false k6]; rfl
  rw [if_neg (by omega), if_neg r2]
  by_cases r3 : r = 3
  · rw [if_pos (by omega), if_pos r3]
    by_cases k3 : μ 5 f = 3
    · rw [if_pos k3, decide_eq_true k3]
      by_cases q : μ 6 f = μ 6 e
      · rw [if_pos q, decide_eq_true q]; rfl
      · rw [if_neg q, decide_eq_false q]; rfl
    · rw [if_neg k3, decide_eq_false k3]; rfl
  rw [if_neg (by omega), if_neg r3]
  by_cases r4 : r = 4
  · rw [if_pos (by omega), if_pos r4, ix_5 (by omega) (by omega)]
    by_cases k3 : μ 5 f = μ 5 e
    · rw [if_pos k3, decide_eq_true k3]
      by_cases q : μ 6 f = μ 6 e
      · rw [if_pos q, decide_eq_true q]; rfl
      · rw [if_neg q, decide_eq_false q]; rfl
    · rw [if_neg k3, decide_eq_false k3]; rfl
  rw [if_neg (by omega), if_neg r4]
  by_cases r5 : r = 5
  · rw [if_pos (by omega), if_pos r5]
    by_cases k3 : μ 5 f = 3
    · rw [if_pos k3, decide_eq_true k3]
      by_cases q : am_w (Int.tdiv (μ 6 f) 2) = μ 6 e
      · rw [if_pos q, decide_eq_true q]; rfl
      · rw [if_neg q, decide_eq_false q]; rfl
    · rw [if_neg k3, decide_eq_false k3]; rfl
  rw [if_neg (by omega), if_neg r5, if_pos (by omega)]
  by_cases k6 : μ 5 f = 6
  · rw [if_pos k6, decide_eq_true k6]; rfl
  · rw [if_neg k6, decide_eq_false k6]; rfl
theorem mx_Fs_set {S : Nat → Int} (hS : mx_Fs μ S W) (e r f : Nat) (he : (e : Int) < μ 2 3) (hm : μ 2 3 ≤ 64) (hr1 : 1 ≤ r) (hr : r < 7) (hf : (f : Int) < μ 2 3) (hn : mx_fp (μ 5) (μ 6) (μ 7) (μ 8) (μ 11) r e f = false) : mx_Fs μ (mx_up S (7 * e + r) (am_lor (S (7 * e + r)) (am_lshl 1 (f : Int)))) W := by
  obtain ⟨f0, f1, f2⟩ := hS
  refine ⟨f0, fun e' he' => ?_, fun e' r' f' he' hr1' hr' hf' => ?_⟩
  · rw [mx_up_ne (by omega)]; exact f1 e' he'
  · obtain ⟨a, b, c⟩ := f2 e' r' f' he' hr1' hr' hf'
    by_cases q : 7 * e' + r' = 7 * e + r
    · have q1 : e' = e := by omega
      have q2 : r' = r := by omega
      subst q1
      subst q2
      rw [mx_up_at, mx_bt_or, mx_bt_one f (by omega) f' hf']
      refine ⟨fun z => by rw [a z]; rfl, fun z => ?_, c⟩
      rw [Bool.or_eq_true] at z
      rcases z with z | z
      · exact b z
      · have z' : f' = f := of_decide_eq_true z
        subst z'
        exact Or.inr ⟨he, hf, fun _ _ => hn⟩
    · rw [mx_up_ne q]; exact ⟨a, b, c⟩
theorem fi_fp_100 (hg : mx_gd μ) (d : Nat) (e r : Nat) (he : (e : Int) < μ 2 3) (hH : μ 9 e ≠ -1) (hr1 : 1 ≤ r) (hr : r < 7) (htk : mx_tk (μ 5 e) r = true) : ∀ (k f : Nat) (o : Int) (σ : am_M), f + k = 64 → mx_fd μ W σ → σ 28 1 = e → σ 28 2 = r → σ 28 3 = f →
    (-9223372036854775808 ≤ o ∧ o < 9223372036854775808) → (∀ i, i < 64 → (mx_bt o i = true ↔ f ≤ i ∧ (i : Int) < μ 2 3 ∧ μ 9 i = μ 7 e ∧ mx_bt (σ 13 (7 * e + r)) i = false)) → (∀ f' : Nat, f' < f → ¬ mx_cd μ W e r f') →
    mx_pres μ W e r n (fi_findPartner_100 (d + 4) ((7 * e + r : Nat) : Int) o σ n) := by
  have h64 := hg.2.1
  have hx := (hg.1.2.2.2.1 e he).2.2.2.2.2 hH
  have sx := (hg.1.2.2.1.1 e he hH).2.1
  have none_at : ∀ (σ : am_M) (f : Nat), mx_fd μ W σ → (f : Int) < μ 2 3 → ¬ (μ 9 f = μ 7 e ∧ mx_bt (σ 13 (7 * e + r)) f = false) → ¬ mx_cd μ W e r f := by
    intro σ f hfd hf hno hcd
    obtain ⟨-, -, -, -, h | ⟨-, f', e1, e2, e3, e4, e5⟩⟩ := hcd
    · omega
    · have ef : f' = f := by omega
      subst ef
      refine hno ⟨e3, ?_⟩
      cases hb : mx_bt (σ 13 (7 * e + r)) f' with
      | false => rfl
      | true =>
        rcases (hfd.2.2.2 e r f' (by omega) hr1 hr (by omega)).2.1 hb with z | ⟨-, -, z⟩
        · exact absurd e5 z
        · have xe : μ 7 e ≠ -1 := fun q => by
            have := hx.1.mpr q
            rw [this] at htk
            unfold mx_tk at htk
            revert htk
            have : r = 1 ∨ r = 2 ∨ r = 3 ∨ r = 4 ∨ r = 5 ∨ r = 6 := by omega
            rcases this with q | q | q | q | q | q <;> subst q <;> decide
          have := z hH (by rw [e3]; exact xe)
          rw [e4] at this; cases this
  have ge : ∀ f : Nat, μ 2 3 ≤ f → ¬ mx_cd μ W e r f := by
    intro f hf hcd
    obtain ⟨-, -, -, -, h | ⟨-, f', e1, e2, -⟩⟩ := hcd <;> omega
  have all : (∀ f : Nat, ¬ mx_cd μ W e r f) → ∀ f : Int, ¬ mx_cd μ W e r f := by
    intro h f hcd
    have hcd' := hcd
    obtain ⟨-, -, -, -, z | ⟨-, f', e1, -⟩⟩ := hcd
    · omega
    · rw [e1] at hcd'; exact h f' hcd'
  intro k
  induction k with
  | zero =>
    intro f o σ hk hfd h1 h2 h3 ho hop hno
    have : o = 0 := mx_zero_bits ho fun i hi => by
      cases q : mx_bt o i with
      | false => rfl
      | true => have := (hop i hi).mp q; omega
    subst this
    refine ⟨false, σ, by rw [fi_findPartner_100_e, if_pos (mx_cmp0.mpr rfl)]; rfl, hfd, h1, h2, fun _ => all fun f' => ?_, fun q => by cases q⟩
    by_cases q : f' < f
    · exact hno f' q
    · exact ge f' (by omega)
  | succ k ih =>
    intro f o σ hk hfd h1 h2 h3 ho hop hno
    have hc := mx_fd_c hfd
    rw [fi_findPartner_100_e]
    by_cases z0 : o = 0
    · rw [if_pos (mx_cmp0.mpr z0)]
      refine ⟨false, σ, rfl, hfd, h1, h2, fun _ => all fun f' => ?_, fun q => by cases q⟩
      by_cases q : f' < f
      · exact hno f' q
      · by_cases q2 : (f' : Int) < μ 2 3
        · refine none_at σ f' hfd q2 fun w => ?_
          have := (hop f' (by omega)).mpr ⟨by omega, q2, w.1, w.2⟩
          rw [z0, mx_bt_0] at this; cases this
        · exact ge f' (by omega)
    · rw [if_neg (fun q => z0 (mx_cmp0.mp q)), h3, hc 2 (by decide) (by decide)]
      by_cases hm : (f : Int) < μ 2 3
      · rw [if_pos hm]
        have stepF : ∀ σ1 : am_M, mx_fd μ W σ1 → σ1 28 1 = e → σ1 28 2 = r → mx_fd μ W (am_wr σ1 28 3 ((f + 1 : Nat) : Int)) ∧ (am_wr σ1 28 3 ((f + 1 : Nat) : Int)) 28 1 = e ∧ (am_wr σ1 28 3 ((f + 1 : Nat) : Int)) 28 2 = r ∧ (am_wr σ1 28 3 ((f + 1 : Nat) : Int)) 28 3 = ((f + 1 : Nat) : Int) ∧ (am_wr σ1 28 3 ((f + 1 : Nat) : Int)) 13 = σ1 13 := by
          intro σ1 a b c
          refine ⟨⟨mx_fq_wr a.1 rfl, by rw [mx_wr_ne (by decide)]; exact a.2⟩, by rw [mx_wr_off (by decide)]; exact b, by rw [mx_wr_off (by decide)]; exact c, mx_wr_at, mx_wr_ne (by decide)⟩
        have hn : am_w ((f : Int) + 1) = ((f + 1 : Nat) : Int) := by rw [mx_w_id (by omega) (by omega)]; rfl
        by_cases hb : mx_bt o f = false
        · rw [if_pos (mx_cmp0.mpr ((mx_land_bit o f (by omega)).mpr hb)), mx_m, hn]
          obtain ⟨a1, a2, a3, a4, a5⟩ := stepF σ hfd h1 h2
          refine ih (f + 1) o _ (by omega) a1 a2 a3 a4 ho (fun i hi => ?_) (fun f' hf' => ?_)
          · rw [hop i hi, a5]
            refine ⟨fun w => ⟨?_, w.2⟩, fun w => ⟨by omega, w.2⟩⟩
            by_cases q : i = f
            · subst q
              have := (hop i hi).mpr w
              rw [hb] at this; cases this
            · omega
          · by_cases q : f' = f
            · subst q
              refine none_at σ f' hfd hm fun w => ?_
              have := (hop f' (by omega)).mpr ⟨Nat.le_refl _, hm, w.1, w.2⟩
              rw [hb] at this; cases this
            · exact hno f' (by omega)
        · rw [if_neg (fun q => hb ((mx_land_bit o f (by omega)).mp (mx_cmp0.mp q)))]
          have hbt : mx_bt o f = true := by cases q : mx_bt o f with
            | false => exact absurd q hb
            | true => rfl
          obtain ⟨-, -, b3, b4⟩ := (hop f (by omega)).mp hbt
          have xe : μ 7 e ≠ -1 := fun q => by
            have := hx.1.mpr q
            rw [this] at htk
            unfold mx_tk at htk
            revert htk
            have : r = 1 ∨ r = 2 ∨ r = 3 ∨ r = 4 ∨ r = 5 ∨ r = 6 := by omega
            rcases this with q | q | q | q | q | q <;> subst q <;> decide
          have hHf : μ 9 f ≠ -1 := by rw [b3]; exact xe
          rw [fi_isPair_s hg d hc e r f h1 h2 h3 hr1 hr he hm hHf, Option.bind_some]
          have hW := hfd.2.2.2 e r f (by omega) hr1 hr (by omega)
          cases hp : mx_fp (μ 5) (μ 6) (μ 7) (μ 8) (μ 11) r e f with
          | true =>
            have w0 : W (455 * e + 65 * r + f) = 0 := by
              rcases Decidable.em (W (455 * e + 65 * r + f) = 0) with q | q
              · exact q
              · have := hW.1 q; rw [b4] at this; cases this
            refine ⟨true, σ, rfl, hfd, h1, h2, fun q => (by cases q), fun _ => ⟨f, h3, ⟨he, hH, hr, htk, Or.inr ⟨hr1, f, rfl, hm, b3, hp, w0⟩⟩, fun f' hcd hlt => ?_⟩⟩
            have hcd' := hcd
            obtain ⟨-, -, -, -, z | ⟨-, f2, e1, -⟩⟩ := hcd
            · omega
            · rw [e1] at hcd'; exact hno f2 (by omega) hcd'
          | false =>
            dsimp only
            rw [mx_bF, ix_13 (by omega) (by omega), ix_13 (by omega) (by omega), Int.toNat_natCast, mx_m, mx_m]
            have a0 : mx_fd μ W (am_wr σ 13 (7 * e + r) (am_lor (σ 13 (7 * e + r)) (am_lshl 1 (f : Int)))) := ⟨mx_fq_wc hfd.1 rfl, by rw [mx_wr_up]; exact mx_Fs_set hfd.2 e r f he h64 hr1 hr hm hp⟩
            rw [mx_wr_ne (by decide : (28 : Nat) ≠ 13), h3, hn]
            obtain ⟨a1, a2, a3, a4, a5⟩ := stepF _ a0 (by rw [mx_wr_ne (by decide)]; exact h1) (by rw [mx_wr_ne (by decide)]; exact h2)
            refine ih (f + 1) _ _ (by omega) a1 a2 a3 a4 (mx_land_rg _ _) (fun i hi => ?_) (fun f' hf' => ?_)
            · rw [a5, mx_wr_at, mx_bt_and, mx_bt_not _ _ hi, mx_bt_one f (by omega) i hi, mx_bt_or, mx_bt_one f (by omega) i hi]
              by_cases q : i = f
              · subst q
                rw [decide_eq_true rfl]
                simp
              · rw [decide_eq_false q, Bool.not_false, Bool.and_true, Bool.or_false, hop i hi]
                exact ⟨fun w => ⟨by omega, w.2⟩, fun w => ⟨by omega, w.2⟩⟩
            · by_cases q : f' = f
              · subst q
                intro hcd
                obtain ⟨-, -, -, -, z | ⟨-, f2, e1, e2, e3, e4, e5⟩⟩ := hcd
                · omega
                · have : f2 = f' := by omega
                  subst this
                  rw [hp] at e4; cases e4
              · exact hno f' (by omega)
      · rw [if_neg hm]
        refine ⟨false, σ, rfl, hfd, h1, h2, fun _ => all fun f' => ?_, fun q => by cases q⟩
        by_cases q : f' < f
        · exact hno f' q
        · exact ge f' (by omega)
theorem fi_findPartner_s (hg : mx_gd μ) (d : Nat) (e r : Nat) (he : (e : Int) < μ 2 3) (hH : μ 9 e ≠ -1) (hr : r < 7) (htk : mx_tk (μ 5 e) r = true) (σ : am_M) (hfd : mx_fd μ W σ) (h1 : σ 28 1 = e) (h2 : σ 28 2 = r) : mx_pres μ W e r n (fi_findPartner (d + 5) σ n) := by
  have h64 := hg.2.1
  have hc := mx_fd_c hfd
  have w2 := hg.1.2.1
  have s := hg.1.2.2.1.1 e he hH
  have hx := (hg.1.2.2.2.1 e he).2.2.2.2.2 hH
  have hat : am_w (am_w ((e : Int) * 7) + (r : Int)) = ((7 * e + r : Nat) : Int) := by
    rw [mx_w_id (z := (e : Int) * 7) (by omega) (by omega), mx_w_id (by omega) (by omega)]
    omega
  rw [fi_findPartner_e, h1, h2, hat]
  by_cases r0 : r = 0
  · subst r0
    rw [if_pos (show ((0 : Nat) : Int) = 0 from rfl), mx_m, Nat.add_zero, ix_13 (by omega) (by omega), mx_wr_ne (by decide), Int.toNat_natCast]
    have hF := (hfd.2.2.1 e (by omega)).1
    have a0 : mx_fd μ W (am_wr σ 28 3 (-1)) := ⟨mx_fq_wr hfd.1 rfl, by rw [mx_wr_ne (by decide)]; exact hfd.2⟩
    have q1 : (am_wr σ 28 3 (-1)) 28 1 = e := by rw [mx_wr_off (by decide)]; exact h1
    have q2 : (am_wr σ 28 3 (-1)) 28 2 = ((0 : Nat) : Int) := by rw [mx_wr_off (by decide)]; exact h2
    by_cases z : σ 13 (7 * e) = 0
    · rw [if_pos (mx_cmp0.mpr z)]
      refine ⟨true, _, rfl, a0, q1, q2, fun q => (by cases q), fun _ => ⟨-1, mx_wr_at, ⟨he, hH, hr, htk, Or.inl ⟨rfl, rfl, hF.mp z⟩⟩, fun f' hcd => ?_⟩⟩
      obtain ⟨-, -, -, -, w | ⟨w, -⟩⟩ := hcd <;> omega
    · rw [if_neg (fun q => z (mx_cmp0.mp q))]
      refine ⟨false, _, rfl, a0, q1, q2, fun _ f hcd => ?_, fun q => (by cases q)⟩
      obtain ⟨-, -, -, -, w | ⟨w, -⟩⟩ := hcd
      · exact z (hF.mpr w.2.2)
      · omega
  · have xe : μ 7 e ≠ -1 := fun q => by
      have := hx.1.mpr q
      rw [this] at htk
      unfold mx_tk at htk
      revert htk
      have : r = 1 ∨ r = 2 ∨ r = 3 ∨ r = 4 ∨ r = 5 ∨ r = 6 := by omega
      rcases this with q | q | q | q | q | q <;> subst q <;> decide
    have gx : 0 ≤ μ 7 e ∧ μ 7 e < μ 2 9 := by rcases s.2.1 with q | q; exact absurd q xe; exact ⟨q.1, q.2.1⟩
    rw [if_neg (by omega), ix_7 (by omega) (by omega), Int.toNat_natCast, me_isGroup_s, Option.bind_some, hc 7 (by decide) (by decide), hc 2 (by decide) (by decide), mx_bi_p ⟨gx.1, gx.2⟩, ix_12 (by omega) (by omega), ix_13 (by omega) (by omega), mx_m, Int.toNat_natCast]
    have a0 : mx_fd μ W (am_wr σ 28 3 0) := ⟨mx_fq_wr hfd.1 rfl, by rw [mx_wr_ne (by decide)]; exact hfd.2⟩
    refine fi_fp_100 hg d e r he hH (by omega) hr htk 64 0 _ _ (by decide) a0 (by rw [mx_wr_off (by decide)]; exact h1) (by rw [mx_wr_off (by decide)]; exact h2) mx_wr_at (mx_land_rg _ _) (fun i hi => ?_) (fun f' hf' => by omega)
    dsimp only
    rw [mx_bt_and, mx_bt_not _ _ hi, Bool.and_eq_true, hc 12 (by decide) (by decide), hg.2.2 (μ 7 e).toNat (by omega) i hi, mx_wr_ne (by decide), Bool.not_eq_true', Int.toNat_of_nonneg gx.1]
    exact ⟨fun w => ⟨by omega, w.1.1, w.1.2, w.2⟩, fun w => ⟨⟨w.2.1, w.2.2.1⟩, w.2.2.2⟩⟩
theorem fi_find_5_s (hg : mx_gd μ) (d : Nat) : ∀ (k e : Nat) (σ : am_M), (e : Int) + k = μ 2 3 → mx_fd μ W σ → σ 28 1 = e → (∀ e' r' f', mx_cd μ W e' r' f' → ¬ e' < e) → mx_fres μ W n (fi_find_5 (d + 5) σ n) := by
  have h64 := hg.2.1
  intro k
  induction k with
  | zero =>
    intro e σ hk hfd h1 hno
    rw [fi_find_5_e, h1, mx_fd_c hfd 2 (by decide) (by decide), if_neg (by omega)]
    refine ⟨false, σ, rfl, hfd, fun _ e' r' f' hcd => ?_, fun q => by cases q⟩
    have := hno e' r' f' hcd
    have := hcd.1
    omega
  | succ k ih =>
    intro e σ hk hfd h1 hno
    have hn : am_w ((e : Int) + 1) = ((e + 1 : Nat) : Int) := by rw [mx_w_id (by omega) (by omega)]; rfl
    have hc := mx_fd_c hfd
    have nextE : ∀ σ1 : am_M, mx_fd μ W σ1 → σ1 28 1 = e → (∀ r' f', ¬ mx_cd μ W e r' f') → mx_fres μ W n (fi_find_5 (d + 5) (am_wr σ1 28 1 (am_w (σ1 28 1 + 1))) n) := by
      intro σ1 a b c
      rw [b, hn]
      refine ih (e + 1) _ (by omega) ⟨mx_fq_wr a.1 rfl, by rw [mx_wr_ne (by decide)]; exact a.2⟩ mx_wr_at (fun e' r' f' hcd => ?_)
      have := hno e' r' f' hcd
      by_cases q : e' = e
      · subst q; exact absurd hcd (c r' f')
      · omega
    rw [fi_find_5_e, h1, hc 2 (by decide) (by decide), if_pos (by omega), me_isGone_s _ _ _ _ (by omega), Option.bind_some, hc 9 (by decide) (by decide), Int.toNat_natCast]
    by_cases hH : μ 9 e = -1
    · rw [mx_bi_p hH, mx_m]
      have := nextE σ hfd h1 (fun r' f' hcd => hcd.2.1 hH)
      rw [h1] at this
      dsimp only
      rw [h1]
      exact this
    · rw [mx_bi_n hH, mx_m]
      have l41 : ∀ (t r : Nat) (σ1 : am_M), r + t = 7 → mx_fd μ W σ1 → σ1 28 1 = e → σ1 28 2 = r → (∀ r' f', mx_cd μ W e r' f' → ¬ r' < r) → mx_fres μ W n (fi_find_41 (d + 5) σ1 n) := by
        intro t
        induction t with
        | zero =>
          intro r σ1 ht a b c hr
          rw [fi_find_41_e, c, if_neg (by omega), mx_m]
          exact nextE σ1 a b (fun r' f' hcd => by have := hr r' f' hcd; have := hcd.2.2.1; omega)
        | succ t iht =>
          intro r σ1 ht a b c hr
          have c1 := mx_fd_c a
          have hnr : am_w ((r : Int) + 1) = ((r + 1 : Nat) : Int) := by rw [mx_w_id (by omega) (by omega)]; rfl
          have nextR : ∀ σ2 : am_M, mx_fd μ W σ2 → σ2 28 1 = e → σ2 28 2 = r → (∀ f', ¬ mx_cd μ W e r f') → mx_fres μ W n (fi_find_41 (d + 5) (am_wr σ2 28 2 (am_w (σ2 28 2 + 1))) n) := by
            intro σ2 a2 b2 c2 hno2
            rw [c2, hnr]
            refine iht (r + 1) _ (by omega) ⟨mx_fq_wr a2.1 rfl, by rw [mx_wr_ne (by decide)]; exact a2.2⟩ (by rw [mx_wr_off (by decide)]; exact b2) mx_wr_at (fun r' f' hcd => ?_)
            have := hr r' f' hcd
            by_cases q : r' = r
            · subst q; exact absurd hcd (hno2 f')
            · omega
          have kd := (hg.1.2.2.2.1 e (by omega)).1
          have tkc := mx_tk_c r (by omega) (μ 5 e).toNat (by rcases kd with q | q | q | q | q <;> omega) (by rcases kd with q | q | q | q | q <;> omega) (by rcases kd with q | q | q | q | q <;> omega)
          rw [Int.toNat_of_nonneg (by rcases kd with q | q | q | q | q <;> omega)] at tkc
          rw [fi_find_41_e, b, c, if_pos (by omega), mx_cx_t 7 rfl (by omega) (by omega), ix_5 (by omega) (by omega), Int.toNat_natCast, Int.toNat_natCast, c1 5 (by decide) (by decide)]
          by_cases tk : mx_tk (μ 5 e) r = true
          · rw [if_pos (tkc.mpr tk)]
            obtain ⟨bb, σ2, p1, p2, p3, p4, p5, p6⟩ := fi_findPartner_s (n := n) hg d e r (by omega) hH (by omega) tk σ1 a b c
            rw [p1, Option.bind_some]
            cases bb with
            | false =>
              exact nextR σ2 p2 p3 p4 (p5 rfl)
            | true =>
              obtain ⟨f, g1, g2, g3⟩ := p6 rfl
              refine ⟨true, σ2, rfl, p2, fun q => (by cases q), fun _ => ⟨e, r, f, p3, p4, g1, g2, fun e' r' f' hcd hlt => ?_⟩⟩
              unfold mx_ltc at hlt
              rcases hlt with z | ⟨z1, z | ⟨z2, z3⟩⟩
              · exact hno e' r' f' hcd z
              · subst z1; exact hr r' f' hcd z
              · subst z1; subst z2; exact g3 f' hcd z3
          · rw [if_neg (fun q => tk (tkc.mp q)), mx_m]
            have := nextR σ1 a b c (fun f' hcd => tk hcd.2.2.2.1)
            rw [c] at this
            exact this
      exact l41 7 0 _ (by decide) ⟨mx_fq_wr hfd.1 rfl, by rw [mx_wr_ne (by decide)]; exact hfd.2⟩ (by rw [mx_wr_off (by decide)]; exact h1) mx_wr_at (fun r' f' _ => by omega)
theorem fi_find_s (hg : mx_gd μ) (hF : mx_Fs μ (μ 13) W) (d : Nat) : mx_fres μ W n (fi_find (d + 6) μ n) := by
  have w2 := hg.1.2.1
  rw [fi_find_e, mx_m]
  exact fi_find_5_s hg d (μ 2 3).toNat 0 _ (by omega) ⟨mx_fq_wr mx_fq_rf rfl, by rw [mx_wr_ne (by decide)]; exact hF⟩ mx_wr_at (fun e' r' f' _ => by omega)
end
