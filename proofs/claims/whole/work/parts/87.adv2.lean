section
variable {n : Nat} {σ : am_M} {R : List mx_wt} {M d : Nat}
theorem mx_pick {b : Bool} {x w : mx_wt} (h : (if b = true then some x else none) = some w) : x = w := by
  cases b with
  | false => cases h
  | true => cases h; rfl
/-- what advance() comes to -/
def mx_ares (σ : am_M) (d : Nat) (R : List mx_wt) (M : Nat) (n : Nat) (x : Option am_R) : Prop :=
  (R = [] ∧ ∃ σ' : am_M, x = some (0, σ', n) ∧ mx_Fq [] mx_P37 σ σ') ∨
  ∃ (w : mx_wt) (R' : List mx_wt) (σ' : am_M) (M' : Nat), R = w :: R' ∧ x = some (1, σ', n) ∧ mx_Fq [] mx_P37 σ σ' ∧ mx_ws σ' d R' M' ∧ M' ≤ M ∧ mx_tl5 w σ' ∧ (w.2.1 = -1 → σ' 37 9 = σ 2 3) ∧ (w.2.1 ≠ -1 → σ' 37 9 = w.2.1 ∧ 0 ≤ w.2.1 ∧ w.2.1 < σ 2 3 ∧ σ 9 w.2.1.toNat = (d / 30 : Nat))
theorem mx_ares_up {σ1 : am_M} {M1 : Nat} {x : Option am_R} (h : mx_ares σ1 d R M1 n x) (hF : mx_Fq [] mx_P37 σ σ1) (hM : M1 ≤ M) : mx_ares σ d R M n x := by
  have k23 : σ1 2 3 = σ 2 3 := hF 2 3 (by simp) (by decide)
  have k9 : σ1 9 = σ 9 := funext fun j => hF 9 j (by simp) (by unfold mx_P37; simp)
  rcases h with ⟨h1, σ', h2, h3⟩ | ⟨w, R', σ', M', h1, h2, h3, h4, h5, h6, h7, h8⟩
  · exact Or.inl ⟨h1, σ', h2, mx_fq_tr hF h3⟩
  · rw [k23] at h7 h8
    rw [k9] at h8
    exact Or.inr ⟨w, R', σ', M', h1, h2, mx_fq_tr hF h3, h4, Nat.le_trans h5 hM, h6, h7, h8⟩
theorem mx_gdP_fr {σ' : am_M} (hF : mx_Fq [] mx_P37 σ σ') (hg : mx_gd σ) (hP : mx_Pv σ) (hdd : mx_dd σ d) : mx_gd σ' ∧ mx_Pv σ' ∧ mx_dd σ' d := by
  have c : ∀ i, i ≠ 37 → σ' i = σ i := fun i q => funext fun j => hF i j (by simp) (by unfold mx_P37; simp only [List.mem_cons, List.not_mem_nil, or_false, Prod.mk.injEq]; omega)
  have e := mx_cR_fr hF rfl
  have p1 : ∀ e' i, mx_pe σ' e' i = mx_pe σ e' i := fun x i => by unfold mx_pe; rw [e, c 5 (by decide), c 7 (by decide), c 8 (by decide), c 9 (by decide)]
  have p2 : ∀ g i, mx_pg σ' g i = mx_pg σ g i := fun x i => by unfold mx_pg; rw [e]
  refine ⟨mx_gd_fr hg (fun i j a b _ => by rw [c i (by omega)]), ⟨fun x hx hH i hi => ?_, fun g hg' hT => ?_⟩, ?_⟩
  · rw [c 2 (by decide)] at hx
    rw [c 9 (by decide)] at hH
    rw [c 5 (by decide)] at hi
    rw [c 41 (by decide), p1]; exact hP.1 x hx hH i hi
  · rw [c 2 (by decide)] at hg'
    rw [c 10 (by decide)] at hT
    rw [c 42 (by decide), p2, p2]; exact hP.2 g hg' hT
  · unfold mx_dd at hdd ⊢
    rw [c 2 (by decide), c 10 (by decide)]; exact hdd
theorem mx_op (d : Nat) (hd : d < 1920) : (-1 ≤ ((d % 30 / 6 : Nat) : Int) - 1 ∧ ((d % 30 / 6 : Nat) : Int) - 1 ≤ 3) ∧ (-1 ≤ ((d % 6 : Nat) : Int) - 1 ∧ ((d % 6 : Nat) : Int) - 1 ≤ 4) := by omega
theorem mx_w3k (n' : Nat) (h : n' < 1000) : am_w ((n' : Int) + 1) = ((n' + 1 : Nat) : Int) := mx_w_nat (by omega)
theorem wa_advance_2_s (dp : Nat) (hd : d < 1920) : ∀ (k : Nat) (M : Nat) (σ : am_M) (R : List mx_wt) (v : Nat), M ≤ k → v + M < 999 → mx_gd σ → mx_Pv σ → mx_dd σ d → mx_ws σ d R M → mx_ares σ d R M n (wa_advance_2 (dp + 4) v σ n) := by
  have ob := mx_op d hd
  intro k
  induction k with
  | zero =>
    intro M σ R v hM hv hg hP hdd hw
    -- nothing is left: e is behind all, the slot is 3
    obtain ⟨w1, w2, w3, e, s, w4, w5, w6⟩ := hw
    rcases w6 with ⟨a1, a2, a3, a4, a5⟩ | ⟨a1, a2, a3, a4⟩
    · omega
    · have hs : s = 3 := by omega
      subst hs
      have y9 : (am_wr σ 37 10 (am_w (σ 37 10 + 1))) 37 9 = e := by rw [mx_wr_off (by decide)]; exact w4
      have y2 : (am_wr σ 37 10 (am_w (σ 37 10 + 1))) 2 3 = σ 2 3 := by rw [mx_wr_ne (by decide)]
      refine Or.inl ⟨by rw [a3]; rfl, am_wr σ 37 10 (am_w (σ 37 10 + 1)), ?_, mx_fq_wr mx_fq_rf rfl⟩
      rw [wa_advance_2_e, if_pos (by omega), mx_m]
      simp only [y9, y2]
      rw [if_neg (by omega), w5, if_pos (by omega)]
  | succ k ih =>
    intro M σ R v hM hv hg hP hdd hw
    have hw0 := hw
    obtain ⟨w1, w2, w3, e, s, w4, w5, w6⟩ := hw
    have h64 := hg.2.1
    have wg := hg.1.2.1
    have hgg : ((d / 30 : Nat) : Int) < σ 2 9 := hdd.1
    have hrr : σ 10 (d / 30) = (d / 30 : Nat) := hdd.2
    have hv2 : (v : Int) < 1000 := by omega
    have nv : am_w ((v : Int) + 1) = ((v + 1 : Nat) : Int) := mx_w3k v (by omega)
    -- the slot goes on
    obtain ⟨σ1, h1⟩ : ∃ σ1, σ1 = am_wr σ 37 10 (am_w (σ 37 10 + 1)) := ⟨_, rfl⟩
    have hs8 : s < 8 := by
      rcases w6 with ⟨a1, a2, a3, a4, a5⟩ | ⟨a1, a2, a3, a4⟩
      · have kd := mx_kd_n (hg.1.2.2.2.1 e a1).1
        have : mx_slots (σ 5 e) ≤ 6 := by rcases kd with q | q | q | q | q <;> rw [q] <;> decide
        omega
      · omega
    have k10 : σ1 37 10 = ((s + 1 : Nat) : Int) := by rw [h1, mx_wr_at, w5]; exact mx_w_nat (by omega)
    have k1 : ∀ j, j ≠ 10 → σ1 37 j = σ 37 j := fun j q => by rw [h1, mx_wr_off q]
    have c1 : ∀ i, i ≠ 37 → σ1 i = σ i := fun i q => by rw [h1, mx_wr_ne q]
    have F1 : mx_Fq [] mx_P37 σ σ1 := by rw [h1]; exact mx_fq_wr mx_fq_rf rfl
    obtain ⟨g1, P1, dd1⟩ := mx_gdP_fr F1 hg hP hdd
    have F15 : ∀ {x : am_M}, mx_Fq [] mx_P5 σ1 x → mx_Fq [] mx_P37 σ x := fun h => mx_fq_tr F1 (mx_fq_up h rfl)
    obtain ⟨fe, fm, fst, fsp, fsl⟩ := mx_wp_fr F1 rfl
    rw [wa_advance_2_e, if_pos hv2, mx_m, ← h1, nv]
    simp only [k1 9 (by decide), w4, c1 2 (by decide), w5]
    clear nv
    rcases w6 with ⟨a1, a2, a3, a4, a5⟩ | ⟨a1, a2, a3, a4⟩
    · -- at an expression
      have sl6 : mx_slots (σ 5 e) ≤ 6 := by rcases mx_kd_n (hg.1.2.2.2.1 e a1).1 with q | q | q | q | q <;> rw [q] <;> decide
      have E : (0 : Int) ≤ e ∧ (e : Int) < 64 := ⟨by omega, by omega⟩
      have hH : σ 9 e ≠ -1 := by rw [a2]; omega
      have kd := mx_kd_n (hg.1.2.2.2.1 e a1).1
      have kb : (0 : Int) ≤ σ 5 e ∧ σ 5 e < 7 := by rcases kd with q | q | q | q | q <;> omega
      have sc := mx_slots_c (σ 5 e).toNat (by omega) (by rcases kd with q | q | q | q | q <;> omega)
      rw [Int.toNat_of_nonneg kb.1] at sc
      rw [if_pos a1, ix_5 E.1 E.2, Int.toNat_natCast, c1 5 (by decide), mx_cx_t 7 rfl kb.1 kb.2, sc]
      by_cases z : s < mx_slots (σ 5 e)
      · rw [if_pos (by omega), ix_5 E.1 E.2, ix_5 E.1 E.2]
        have weS := mx_we_S (σ := σ) (al := σ 37 5) (o := ((d % 30 / 6 : Nat) : Int) - 1) (p := ((d % 6 : Nat) : Int) - 1) z
        -- behind an offer
        have beh : ∀ σ2 : am_M, mx_Fq [] mx_P5 σ1 σ2 → mx_ws σ2 d (mx_we σ (σ 37 5) (((d % 30 / 6 : Nat) : Int) - 1) (((d % 6 : Nat) : Int) - 1) e (s + 1) ++ (mx_wm σ (σ 37 5) (d / 30 : Nat) (((d % 30 / 6 : Nat) : Int) - 1) (((d % 6 : Nat) : Int) - 1) ((σ 2 3).toNat - e - 1) (e + 1) ++ (mx_wst σ (σ 37 5) (d / 30 : Nat) (((d % 30 / 6 : Nat) : Int) - 1) (((d % 6 : Nat) : Int) - 1) ++ mx_wsp σ (σ 37 5) (d / 30 : Nat) (((d % 30 / 6 : Nat) : Int) - 1) (((d % 6 : Nat) : Int) - 1)))) (M - 1) := by
          intro σ2 hF2
          have k2 : ∀ j, j < 11 → σ2 37 j = σ1 37 j := fun j q => hF2 37 j (by simp) (by unfold mx_P5; simp only [List.mem_cons, List.not_mem_nil, or_false, Prod.mk.injEq]; omega)
          have c2 : ∀ i, i ≠ 37 → σ2 i = σ i := fun i q => (funext fun j => hF2 i j (by simp) (by unfold mx_P5; simp only [List.mem_cons, List.not_mem_nil, or_false, Prod.mk.injEq]; omega)).trans (c1 i q)
          obtain ⟨ge, gm, gst, gsp, -⟩ := mx_wp_fr (F15 hF2) rfl
          have al2 : σ2 37 5 = σ 37 5 := by rw [k2 5 (by decide), k1 5 (by decide)]
          refine ⟨by rw [k2 6 (by decide), k1 6 (by decide)]; exact w1, by rw [k2 7 (by decide), k1 7 (by decide)]; exact w2, by rw [k2 8 (by decide), k1 8 (by decide)]; exact w3, e, s + 1, by rw [k2 9 (by decide), k1 9 (by decide)]; exact w4, by rw [k2 10 (by decide)]; exact k10, Or.inl ⟨by rw [c2 2 (by decide)]; exact a1, by rw [c2 9 (by decide)]; exact a2, by rw [c2 5 (by decide)]; omega, ?_, ?_⟩⟩
          · rw [ge, gm, gst, gsp, al2, c2 2 (by decide)]
          · rw [c2 2 (by decide)]; omega
        have fin : ∀ (b : Bool) (σ2 : am_M), mx_Fq [] mx_P5 σ1 σ2 → b = (mx_sl σ (σ 37 5) (((d % 30 / 6 : Nat) : Int) - 1) (((d % 6 : Nat) : Int) - 1) e s).isSome → (∀ w, mx_sl σ (σ 37 5) (((d % 30 / 6 : Nat) : Int) - 1) (((d % 6 : Nat) : Int) - 1) e s = some w → mx_tl5 w σ2 ∧ w.2.1 = e) → mx_ares σ d R M n (if mx_b b = 0 then wa_advance_2 (dp + 4) ((v + 1 : Nat) : Int) σ2 n else some (1, σ2, n)) := by
          intro b σ2 hF2 hb htl
          have hb2 := beh σ2 hF2
          have F2 := F15 hF2
          cases hsl : mx_sl σ (σ 37 5) (((d % 30 / 6 : Nat) : Int) - 1) (((d % 6 : Nat) : Int) - 1) e s with
          | none =>
            rw [hsl] at hb weS
            rw [hb]
            obtain ⟨g2, P2, dd2⟩ := mx_gdP_fr F2 hg hP hdd
            have r := ih (M - 1) σ2 _ (v + 1) (by omega) (by omega) g2 P2 dd2 hb2
            have r2 := mx_ares_up (M := M) r F2 (by omega)
            rw [a4, weS]
            exact r2
          | some w =>
            rw [hsl] at hb weS
            rw [hb]
            obtain ⟨t1, t2⟩ := htl w hsl
            refine Or.inr ⟨w, _, σ2, M - 1, ?_, rfl, F2, hb2, by omega, t1, fun q => by omega, fun _ => ⟨?_, by omega, by omega, ?_⟩⟩
            · rw [a4, weS]; rfl
            · rw [hF2 37 9 (by simp) (by decide), k1 9 (by decide), w4, t2]
            · rw [t2, Int.toNat_natCast]; exact a2
        have slE : ∀ w, mx_sl σ (σ 37 5) (((d % 30 / 6 : Nat) : Int) - 1) (((d % 6 : Nat) : Int) - 1) e s = some w → w.2.1 = e := by
          intro w hw'
          unfold mx_sl at hw'
          by_cases q1 : σ 5 e = 1
          · rw [if_pos q1] at hw'
            rw [← mx_pick hw']
          · rw [if_neg q1] at hw'
            by_cases q3 : σ 5 e = 3
            · rw [if_pos q3] at hw'
              rw [← mx_pick hw']
            · rw [if_neg q3] at hw'
              rw [← mx_pick hw']
        have sl0 : (σ 5 e = 1 ∨ σ 5 e = 3) → mx_sl σ (σ 37 5) (((d % 30 / 6 : Nat) : Int) - 1) (((d % 6 : Nat) : Int) - 1) e 0 = mx_sl σ (σ 37 5) (((d % 30 / 6 : Nat) : Int) - 1) (((d % 6 : Nat) : Int) - 1) e s := by
          intro q
          have : s = 0 := by
            have : mx_slots (σ 5 e) = 1 := by rcases q with q | q <;> rw [q] <;> decide
            omega
          rw [this]
        have o7 : σ1 37 7 = ((d % 30 / 6 : Nat) : Int) - 1 := by rw [k1 7 (by decide)]; exact w2
        have o8 : σ1 37 8 = ((d % 6 : Nat) : Int) - 1 := by rw [k1 8 (by decide)]; exact w3
        have o9 : σ1 37 9 = e := by rw [k1 9 (by decide)]; exact w4
        have o5 : σ1 37 5 = σ 37 5 := k1 5 (by decide)
        have single : (σ 5 e = 1 ∨ σ 5 e = 3) → mx_ares σ d R M n ((wa_offersSingle (dp + 4) σ1 n).bind fun q1 => if q1.1 = 0 then wa_advance_2 (dp + 4) ((v + 1 : Nat) : Int) q1.2.1 q1.2.2 else some (1, q1.2.1, q1.2.2)) := by
          intro q
          obtain ⟨σ2, p1, p2, p3⟩ := wa_offersSingle_s (n := n) hg hP dp c1 o5 e a1 hH q o9 o7 o8 ob.1 ob.2
          rw [sl0 q] at p1 p3
          rw [p1, Option.bind_some]
          exact fin _ σ2 p2 rfl (fun w hw' => ⟨p3 w hw', slE w hw'⟩)
        by_cases q1 : σ 5 e = 1
        · rw [if_pos q1]; exact single (Or.inl q1)
        · rw [if_neg q1]
          by_cases q3 : σ 5 e = 3
          · rw [if_pos q3]; exact single (Or.inr q3)
          · rw [if_neg q3]
            obtain ⟨σ2, p1, p2, p3⟩ := wa_offersAt_s (n := n) hg hP dp c1 o5 e s a1 hH (by rcases kd with q | q | q | q | q <;> omega) z o9 o7 o8 ob.1 ob.2
            rw [p1, Option.bind_some]
            exact fin _ σ2 p2 rfl (fun w hw' => ⟨p3 w hw', slE w hw'⟩)
      · -- the next member
        rw [if_neg (by omega), k1 6 (by decide), w1]
        have nx := me_memberFrom_s (σ := σ1) (dp + 2) n (d / 30) (e + 1) g1.2.2 (by rw [c1 2 (by decide)]; omega) (by rw [c1 2 (by decide)]; exact hgg) (by rw [c1 2 (by decide)]; omega) (by omega)
        rw [c1 2 (by decide), c1 9 (by decide)] at nx
        rw [mx_w3k e (by omega), nx, Option.bind_some, mx_m, mx_m]
        have wnx := mx_wm_nx (σ := σ) (al := σ 37 5) (o := ((d % 30 / 6 : Nat) : Int) - 1) (p := ((d % 6 : Nat) : Int) - 1) (d / 30) ((σ 2 3).toNat - e - 1) (e + 1) (by omega)
        obtain ⟨e', he'⟩ : ∃ e' : Nat, mx_nx (σ 2 3) (σ 9) (d / 30 : Nat) (e + 1) = e' ∧ e + 1 ≤ e' ∧ (e' : Int) ≤ σ 2 3 ∧ ((e' : Int) < σ 2 3 → σ 9 e' = (d / 30 : Nat)) := by
          rcases mx_nx_c (m := σ 2 3) (H := σ 9) (g := ((d / 30 : Nat) : Int)) (f := e + 1) (by omega) with ⟨q1, -⟩ | ⟨x, q1, q2, q3, q4, -⟩
          · exact ⟨(σ 2 3).toNat, by rw [q1]; omega, by omega, by omega, fun q => by omega⟩
          · exact ⟨x, q1, q2, by omega, fun _ => q4⟩
        obtain ⟨e1', e2', e3', e4'⟩ := he'
        rw [e1'] at wnx
        obtain ⟨σ3, h3⟩ : ∃ σ3, σ3 = am_wr (am_wr σ1 37 9 e') 37 10 0 := ⟨_, rfl⟩
        dsimp only
        rw [e1', ← h3]
        have F3 : mx_Fq [] mx_P37 σ σ3 := by rw [h3]; exact mx_fq_wr (mx_fq_wr F1 rfl) rfl
        have c3 : ∀ i, i ≠ 37 → σ3 i = σ i := fun i q => by rw [h3, mx_wr_ne q, mx_wr_ne q, c1 i q]
        have k3 : ∀ j, j < 9 → σ3 37 j = σ 37 j := fun j q => by rw [h3, mx_wr_off (by omega), mx_wr_off (by omega), k1 j (by omega)]
        obtain ⟨g3, P3, dd3⟩ := mx_gdP_fr F3 hg hP hdd
        obtain ⟨ge, gm, gst, gsp, -⟩ := mx_wp_fr F3 rfl
        have we0 := mx_we_0 (σ := σ) (al := σ 37 5) (o := ((d % 30 / 6 : Nat) : Int) - 1) (p := ((d % 6 : Nat) : Int) - 1) (e := e) (s := s) (by omega)
        have ws3 : mx_ws σ3 d R (if (e' : Int) = σ 2 3 then 3 else 7 * ((σ 2 3).toNat - e') + 7 + 3) := by
          refine ⟨by rw [k3 6 (by decide)]; exact w1, by rw [k3 7 (by decide)]; exact w2, by rw [k3 8 (by decide)]; exact w3, e', 0, by rw [h3, mx_wr_off (by decide), mx_wr_at], by rw [h3, mx_wr_at]; rfl, ?_⟩
          rw [c3 2 (by decide), c3 9 (by decide), c3 5 (by decide), k3 5 (by decide), ge, gm, gst, gsp]
          by_cases q : (e' : Int) = σ 2 3
          · rw [if_pos q] at wnx
            refine Or.inr ⟨q, by decide, ?_, by rw [if_pos q]⟩
            rw [a4, we0, wnx, if_pos rfl]; rfl
          · rw [if_neg q, Int.toNat_natCast] at wnx
            refine Or.inl ⟨by omega, e4' (by omega), Nat.zero_le _, ?_, by rw [if_neg q]⟩
            rw [a4, we0, wnx, List.nil_append, List.append_assoc]
        have r := ih _ σ3 R (v + 1) (by split <;> omega) (by split <;> omega) g3 P3 dd3 ws3
        exact mx_ares_up r F3 (by split <;> omega)
    · -- behind all expressions
      rw [if_neg (by omega)]
      have o6 : σ1 37 6 = (d / 30 : Nat) := by rw [k1 6 (by decide)]; exact w1
      have o7 : σ1 37 7 = ((d % 30 / 6 : Nat) : Int) - 1 := by rw [k1 7 (by decide)]; exact w2
      have o8 : σ1 37 8 = ((d % 6 : Nat) : Int) - 1 := by rw [k1 8 (by decide)]; exact w3
      have beh : ∀ (σ2 : am_M) (R2 : List mx_wt), mx_Fq [] mx_P5 σ1 σ2 → s + 1 ≤ 3 → R2 = (if s + 1 = 1 then mx_wsp σ (σ 37 5) (d / 30 : Nat) (((d % 30 / 6 : Nat) : Int) - 1) (((d % 6 : Nat) : Int) - 1) else []) → mx_ws σ2 d R2 (M - 1) := by
        intro σ2 R2 hF2 hs3 hR2
        have k2 : ∀ j, j < 11 → σ2 37 j = σ1 37 j := fun j q => hF2 37 j (by simp) (by unfold mx_P5; simp only [List.mem_cons, List.not_mem_nil, or_false, Prod.mk.injEq]; omega)
        have c2 : ∀ i, i ≠ 37 → σ2 i = σ i := fun i q => (funext fun j => hF2 i j (by simp) (by unfold mx_P5; simp only [List.mem_cons, List.not_mem_nil, or_false, Prod.mk.injEq]; omega)).trans (c1 i q)
        obtain ⟨ge, gm, gst, gsp, -⟩ := mx_wp_fr (F15 hF2) rfl
        refine ⟨by rw [k2 6 (by decide)]; exact o6, by rw [k2 7 (by decide)]; exact o7, by rw [k2 8 (by decide)]; exact o8, e, s + 1, by rw [k2 9 (by decide), k1 9 (by decide)]; exact w4, by rw [k2 10 (by decide)]; exact k10, Or.inr ⟨by rw [c2 2 (by decide)]; exact a1, hs3, ?_, by omega⟩⟩
        rw [gsp, k2 5 (by decide), k1 5 (by decide), if_neg (by omega)]
        exact hR2
      by_cases s1 : 1 < s
      · rw [if_pos (by omega)]
        refine Or.inl ⟨?_, σ1, rfl, F1⟩
        rw [a3, if_neg (by omega), if_neg (by omega)]
      · rw [if_neg (by omega)]
        by_cases s0 : s = 0
        · subst s0
          rw [if_pos (show ((0 : Nat) : Int) = 0 from rfl)]
          rw [if_pos rfl] at a3
          obtain ⟨σ2, p1, p2⟩ := wa_offersSort_s (n := n) g1 P1 (dp + 1) (d / 30) dd1.1 dd1.2 o6 o7 o8 ob.2
          rw [fst, k1 5 (by decide)] at p2
          have hb2 := beh σ2 _ p1 (by decide) (by rw [if_pos rfl])
          have F2 := F15 p1
          rcases p2 with ⟨q1, q2⟩ | ⟨w, q1, q2, q3, q4⟩
          · rw [q2, Option.bind_some]
            obtain ⟨g2, P2, dd2⟩ := mx_gdP_fr F2 hg hP hdd
            have r := ih (M - 1) σ2 _ (v + 1) (by omega) (by omega) g2 P2 dd2 hb2
            have r2 := mx_ares_up (M := M) r F2 (by omega)
            rw [a3, q1]
            exact r2
          · rw [q3, Option.bind_some]
            refine Or.inr ⟨w, _, σ2, M - 1, by rw [a3, q1]; rfl, rfl, F2, hb2, by omega, q4, fun _ => ?_, fun q => absurd q2 q⟩
            rw [p1 37 9 (by simp) (by decide), k1 9 (by decide), w4]; exact a1
        · have hs1 : s = 1 := by omega
          subst hs1
          rw [if_neg (by decide)]
          rw [if_neg (by decide), if_pos rfl] at a3
          obtain ⟨σ2, p1, p2⟩ := wa_offersShip_s (n := n) g1 P1 (dp + 1) (d / 30) dd1.1 dd1.2 o6 o7 o8
          rw [fsp, k1 5 (by decide)] at p2
          have hb2 := beh σ2 _ p1 (by decide) (by rw [if_neg (by decide)])
          have F2 := F15 p1
          rcases p2 with ⟨q1, q2⟩ | ⟨w, q1, q2, q3, q4⟩
          · rw [q2, Option.bind_some]
            obtain ⟨g2, P2, dd2⟩ := mx_gdP_fr F2 hg hP hdd
            have r := ih (M - 1) σ2 _ (v + 1) (by omega) (by omega) g2 P2 dd2 hb2
            have r2 := mx_ares_up (M := M) r F2 (by omega)
            rw [a3, q1]
            exact r2
          · rw [q3, Option.bind_some]
            refine Or.inr ⟨w, _, σ2, M - 1, by rw [a3, q1], rfl, F2, hb2, by omega, q4, fun _ => ?_, fun q => absurd q2 q⟩
            rw [p1 37 9 (by simp) (by decide), k1 9 (by decide), w4]; exact a1
/-- advance() -/
theorem wa_advance_s (hg : mx_gd σ) (hP : mx_Pv σ) (hd : d < 1920) (hdd : mx_dd σ d) (hM : M < 900) (hw : mx_ws σ d R M) (dp : Nat) : mx_ares σ d R M n (wa_advance (dp + 5) σ n) := by
  rw [wa_advance_e]
  exact wa_advance_2_s dp hd M M σ R 0 (Nat.le_refl _) (by omega) hg hP hdd hw
/-- beginAll() -/
theorem wa_beginAll_s (hg : mx_gd σ) (hd : d < 1920) (hdd : mx_dd σ d) (dp : Nat) : ∃ (σ' : am_M) (M : Nat), wa_beginAll (dp + 3) d σ n = some (0, σ', n) ∧ mx_Fq [] mx_P37 σ σ' ∧ M < 900 ∧ mx_ws σ' d (mx_wl σ (σ 37 5) d) M := by
  have h64 := hg.2.1
  have wg := hg.1.2.1
  have t1 : am_w (Int.tdiv (d : Int) 30) = ((d / 30 : Nat) : Int) := by
    rw [show Int.tdiv (d : Int) 30 = ((d / 30 : Nat) : Int) by rw [Int.tdiv_eq_ediv_of_nonneg (by omega)]; omega, mx_w_id (by omega) (by omega)]
  have t2 : am_w (am_w (Int.tdiv (Int.tmod (d : Int) 30) 6) - 1) = ((d % 30 / 6 : Nat) : Int) - 1 := by
    rw [show Int.tmod (d : Int) 30 = ((d % 30 : Nat) : Int) by rw [Int.tmod_eq_emod_of_nonneg (by omega)]; omega, show Int.tdiv ((d % 30 : Nat) : Int) 6 = ((d % 30 / 6 : Nat) : Int) by rw [Int.tdiv_eq_ediv_of_nonneg (by omega)]; omega, mx_w_id (z := ((d % 30 / 6 : Nat) : Int)) (by omega) (by omega), mx_w_id (by omega) (by omega)]
  have t3 : am_w (Int.tmod (d : Int) 6 - 1) = ((d % 6 : Nat) : Int) - 1 := by
    rw [show Int.tmod (d : Int) 6 = ((d % 6 : Nat) : Int) by rw [Int.tmod_eq_emod_of_nonneg (by omega)]; omega, mx_w_id (by omega) (by omega)]
  rw [wa_beginAll_e, t1, t2, t3, mx_m, mx_m, mx_m]
  clear t1 t2 t3
  obtain ⟨σ3, h3⟩ : ∃ σ3, σ3 = am_wr (am_wr (am_wr σ 37 6 (d / 30 : Nat)) 37 7 (((d % 30 / 6 : Nat) : Int) - 1)) 37 8 (((d % 6 : Nat) : Int) - 1) := ⟨_, rfl⟩
  have F3 : mx_Fq [] mx_P37 σ σ3 := by rw [h3]; exact mx_fq_wr (mx_fq_wr (mx_fq_wr mx_fq_rf rfl) rfl) rfl
  have c3 : ∀ i, i ≠ 37 → σ3 i = σ i := fun i q => by rw [h3, mx_wr_ne q, mx_wr_ne q, mx_wr_ne q]
  have x6 : σ3 37 6 = (d / 30 : Nat) := by rw [h3, mx_wr_off (by decide), mx_wr_off (by decide), mx_wr_at]
  have x7 : σ3 37 7 = ((d % 30 / 6 : Nat) : Int) - 1 := by rw [h3, mx_wr_off (by decide), mx_wr_at]
  have x8 : σ3 37 8 = ((d % 6 : Nat) : Int) - 1 := by rw [h3, mx_wr_at]
  have x5 : σ3 37 5 = σ 37 5 := by rw [h3, mx_wr_off (by decide), mx_wr_off (by decide), mx_wr_off (by decide)]
  have M3 : mx_Mb (σ3 2 3) (σ3 2 9) (σ3 9) (σ3 12) := by rw [c3 2 (by decide), c3 9 (by decide), c3 12 (by decide)]; exact hg.2.2
  have nx := me_memberFrom_s (σ := σ3) dp n (d / 30) 0 M3 (by rw [c3 2 (by decide)]; omega) (by rw [c3 2 (by decide)]; exact hdd.1) (by rw [c3 2 (by decide)]; omega) (by omega)
  rw [c3 2 (by decide), c3 9 (by decide)] at nx
  have wnx := mx_wm_nx (σ := σ) (al := σ 37 5) (o := ((d % 30 / 6 : Nat) : Int) - 1) (p := ((d % 6 : Nat) : Int) - 1) (d / 30) (σ 2 3).toNat 0 (by omega)
  obtain ⟨e', e1', e3', e4'⟩ : ∃ e' : Nat, mx_nx (σ 2 3) (σ 9) (d / 30 : Nat) 0 = e' ∧ (e' : Int) ≤ σ 2 3 ∧ ((e' : Int) < σ 2 3 → σ 9 e' = (d / 30 : Nat)) := by
    rcases mx_nx_c (m := σ 2 3) (H := σ 9) (g := ((d / 30 : Nat) : Int)) (f := 0) (by omega) with ⟨q1, -⟩ | ⟨x, q1, q2, q3, q4, -⟩
    · exact ⟨(σ 2 3).toNat, by rw [q1]; omega, by omega, fun q => by omega⟩
    · exact ⟨x, q1, by omega, fun _ => q4⟩
  rw [e1'] at wnx nx
  rw [← h3, x6, show me_memberFrom (dp + 2) ((d / 30 : Nat) : Int) 0 σ3 n = _ from nx, Option.bind_some, mx_m, mx_m]
  obtain ⟨σ5, h5⟩ : ∃ σ5, σ5 = am_wr (am_wr σ3 37 9 e') 37 10 0 := ⟨_, rfl⟩
  have F5 : mx_Fq [] mx_P37 σ σ5 := by rw [h5]; exact mx_fq_wr (mx_fq_wr F3 rfl) rfl
  have c5 : ∀ i, i ≠ 37 → σ5 i = σ i := fun i q => by rw [h5, mx_wr_ne q, mx_wr_ne q, c3 i q]
  have k5 : ∀ j, j < 9 → σ5 37 j = σ3 37 j := fun j q => by rw [h5, mx_wr_off (by omega), mx_wr_off (by omega)]
  obtain ⟨ge, gm, gst, gsp, -⟩ := mx_wp_fr F5 rfl
  refine ⟨σ5, (if (e' : Int) = σ 2 3 then 3 else 7 * ((σ 2 3).toNat - e') + 7 + 3), by rw [h5], F5, by split <;> omega, by rw [k5 6 (by decide)]; exact x6, by rw [k5 7 (by decide)]; exact x7, by rw [k5 8 (by decide)]; exact x8, e', 0, by rw [h5, mx_wr_off (by decide), mx_wr_at], by rw [h5, mx_wr_at]; rfl, ?_⟩
  rw [c5 2 (by decide), c5 9 (by decide), c5 5 (by decide), k5 5 (by decide), x5, ge, gm, gst, gsp]
  unfold mx_wl
  by_cases q : (e' : Int) = σ 2 3
  · rw [if_pos q] at wnx
    refine Or.inr ⟨q, by decide, ?_, by rw [if_pos q]⟩
    rw [wnx, if_pos rfl]; rfl
  · rw [if_neg q, Int.toNat_natCast] at wnx
    refine Or.inl ⟨by omega, e4' (by omega), Nat.zero_le _, ?_, by rw [if_neg q]⟩
    rw [wnx, List.append_assoc, List.append_assoc]
end
