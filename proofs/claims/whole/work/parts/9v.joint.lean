/-! READ: both read an expression -/
section
variable {n : Nat} {σ μ τ τb : am_M}
noncomputable def mx_Kr (dp : Nat) (v i : Int) : am_R → Option am_R := fun q2 => if q2.1 = (-1) then (if q2.2.1 43 10 = 0 then (am_if (¬ v < 0) (if q2.2.1 43 2 = q2.2.1 v.toNat 1 then (some ((-1), q2.2.1, q2.2.2)) else some (q2.2.1 43 2, q2.2.1, q2.2.2))) else re_faultIn_22 (dp + 8) v (am_w (i + 1)) q2.2.1 q2.2.2) else some (q2.1, q2.2.1, q2.2.2)
theorem mx_Kr_f (dp : Nat) (v i : Int) (g : Nat) (σ : am_M) : mx_Kr dp v i ((g : Int), σ, n) = some ((g : Int), σ, n) := by
  unfold mx_Kr
  dsimp only
  rw [if_neg (by omega)]
theorem mx_Kr_n (dp : Nat) (v i : Int) {σ : am_M} (h : σ 43 10 ≠ 0) : mx_Kr dp v i (-1, σ, n) = re_faultIn_22 (dp + 8) v (am_w (i + 1)) σ n := by
  unfold mx_Kr
  dsimp only
  rw [if_pos rfl, if_neg h]
theorem re_endAround_2_s {s a : Nat} {L : List mx_pt} {O : List mx_po} {w : mx_po} (h : mx_rcs μ σ s a L (O ++ [w])) (hl : L.length < 32) (hO : O.length < 32) (hl0 : 0 < L.length) (dp j : Nat) (hj : j < 32) :
    re_endAround_2 (dp + 7) j σ n = re_endAround_55 (dp + 7) j O.length ((L.length - 1 : Nat) : Int) (if w.1 = 5 ∨ w.1 = 6 then 1 else 0) σ n := by
  have top := (h.2.2.2.2.2.1 O.length w (by rw [List.getElem?_append_right (Nat.le_refl _), Nat.sub_self]; rfl)).1
  have h4 := h.2.2.2.1
  rw [List.length_append, List.length_singleton] at h4
  have e1 : am_w (σ 43 10 - 1) = (O.length : Nat) := by rw [h4, mx_w_id (by omega) (by omega)]; omega
  have e2 : am_w (σ 43 3 - 1) = ((L.length - 1 : Nat) : Int) := by rw [h.2.2.1, mx_w_id (by omega) (by omega)]; omega
  have Io : (0 : Int) ≤ (O.length : Int) ∧ (O.length : Int) < 32 := ⟨by omega, by omega⟩
  have b1 : (j : Int) < 32 := by omega
  have b2 : 0 < σ 43 10 := by rw [h4]; omega
  rw [re_endAround_2_e, if_pos b1, if_pos b2, e1, e2, ix_50 Io.1 Io.2, Int.toNat_natCast]
  by_cases z : w.1 = 5
  · rw [if_pos (top.trans z), if_pos (Or.inl z)]
  · rw [if_neg (fun q => z (top.symm.trans q)), ix_50 Io.1 Io.2]
    by_cases y : w.1 = 6
    · rw [if_pos (top.trans y), if_pos (Or.inr y)]
    · rw [if_neg (fun q => y (top.symm.trans q)), if_neg (fun q => by rcases q with q | q; exact z q; exact y q)]
/-- the class: the second input comes -/
theorem re_endAround_55_s {s S a : Nat} {L : List mx_pt} {O : List mx_po} {k o f : Int} (h : mx_rcs μ σ s a L (O ++ [(k, o, -1, f)])) (hs : s < 8) (hS : μ (66 + 2 * s) 1 = S) (hS2 : S ≤ 160) (ha : a ≤ S) (hO : O.length < 32) (dp : Nat) (j last : Int) :
    ∃ σ1 : am_M, mx_rcs μ σ1 s a L (O ++ [(k, o, last, f)]) ∧ re_endAround_55 (dp + 7) j O.length last 1 σ n = if mx_tx (μ (67 + 2 * s)) S a = 44 then some (-1, am_wr σ1 43 2 ((a + 1 : Nat) : Int), n) else some ((a : Int), σ1, n) := by
  have top := h.2.2.2.2.2.1 O.length (k, o, -1, f) (by rw [List.getElem?_append_right (Nat.le_refl _), Nat.sub_self]; rfl)
  have Io : (0 : Int) ≤ (O.length : Int) ∧ (O.length : Int) < 32 := ⟨by omega, by omega⟩
  obtain ⟨h1, h2, h3, h4, h5, h6, h7⟩ := h
  rw [List.length_append, List.length_singleton] at h4
  obtain ⟨σ1, hσ1⟩ : ∃ σ1, σ1 = am_wr σ 52 O.length last := ⟨_, rfl⟩
  have g : ∀ b, b ≠ 52 → σ1 b = σ b := fun b q => by rw [hσ1, mx_wr_ne q]
  have r1 : mx_rcs μ σ1 s a L (O ++ [(k, o, last, f)]) := by
    refine ⟨by rw [g 43 (by decide)]; exact h1, by rw [g 43 (by decide)]; exact h2, by rw [g 43 (by decide)]; exact h3, by rw [g 43 (by decide), h4, List.length_append, List.length_singleton], fun i q hq => ?_, fun i w hw => ?_, by rw [hσ1]; exact mx_fq_wr h7 rfl⟩
    · rw [g 44 (by decide), g 45 (by decide), g 46 (by decide), g 47 (by decide), g 48 (by decide)]
      exact h5 i q hq
    · rw [g 50 (by decide), g 51 (by decide), g 53 (by decide)]
      by_cases z : i < O.length
      · rw [List.getElem?_append_left z] at hw
        have := h6 i w (by rw [List.getElem?_append_left z]; exact hw)
        rw [hσ1, mx_wr_off (by omega)]
        exact this
      · have hl' := (List.getElem?_eq_some_iff.mp hw).1
        rw [List.length_append, List.length_singleton] at hl'
        have : i = O.length := by omega
        subst this
        rw [List.getElem?_append_right (by omega), Nat.sub_self] at hw
        cases hw
        rw [hσ1, mx_wr_at]
        exact ⟨top.1, top.2.1, rfl, top.2.2.2⟩
  refine ⟨σ1, r1, ?_⟩
  have tk := re_take_s (n := n) (σ := σ1) (dp + 3) s S a 44 hs (by omega) r1.1 r1.2.1 (by rw [mx_rcs_k r1 (by omega)]; exact hS) hS2
  rw [mx_rcs_k r1 (i := 67 + 2 * s) (by omega)] at tk
  rw [re_endAround_55_e, if_neg (by decide), ix_52 Io.1 Io.2, Int.toNat_natCast, if_pos top.2.2.1, ix_52 Io.1 Io.2, mx_m, ← hσ1, show re_take (dp + 7) 44 σ1 n = _ from tk]
  by_cases z : mx_tx (μ (67 + 2 * s)) S a = 44
  · rw [if_pos z, if_pos z, Option.bind_some]
    dsimp only
    rw [if_neg (by decide)]
  · rw [if_neg z, if_neg z, Option.bind_some]
    dsimp only
    rw [if_pos rfl, r1.2.1]
theorem re_endAround_55_t {s a : Nat} {L : List mx_pt} {O : List mx_po} {k o l f : Int} (h : mx_rcs μ σ s a L (O ++ [(k, o, l, f)])) (hO : O.length < 32) (hl : l ≠ -1) (dp : Nat) (j last : Int) : re_endAround_55 (dp + 7) j O.length last 1 σ n = re_endAround_97 (dp + 7) j O.length last 1 σ n := by
  have top := h.2.2.2.2.2.1 O.length (k, o, l, f) (by rw [List.getElem?_append_right (Nat.le_refl _), Nat.sub_self]; rfl)
  have Io : (0 : Int) ≤ (O.length : Int) ∧ (O.length : Int) < 32 := ⟨by omega, by omega⟩
  rw [re_endAround_55_e, if_neg (by decide), ix_52 Io.1 Io.2, Int.toNat_natCast, if_neg (fun q => hl (top.2.2.1.symm.trans q))]
/-- reads() and faultIn(), side by side -/
def mx_out (μ τb : am_M) (n : Nat) (dp s S a : Nat) (L : List mx_pt) (O : List mx_po) (X Y : Option am_R) : Prop :=
  (∃ (f : Nat) (σ' τ' : am_M) (L' : List mx_pt), X = some ((f : Int), σ', n) ∧ mx_Fq mx_CR mx_Prr μ σ' ∧ Y = some (-1, τ', n) ∧ τ' 82 6 = (f : Nat) ∧ mx_vj μ L' (mx_tal μ L') ∧ mx_rl (mx_tal μ L').1 τ' ∧ L'.length ≤ 27 ∧ mx_Fq mx_CT mx_PT τb τ') ∨
  (∃ (a' i' j : Nat) (R : List mx_pt) (g : Int) (σ' τ' : am_M), X = (re_endAround_2 (dp + 7) j σ' n).bind (mx_Kr dp ((66 + 2 * s : Nat) : Int) i') ∧ mx_rcs μ σ' s a' (L ++ R) O ∧ Y = some (g, τ', n) ∧ mx_jr μ τb τ' (mx_tx (μ (67 + 2 * s)) S) S a' (L ++ R) ∧ 0 < (L ++ R).length ∧ (mx_tal μ (L ++ R)).2[(L ++ R).length - 1]? = some g ∧ a + 6 ≤ a' ∧ 6 * ((L ++ R).length + O.length) ≤ a' ∧ 6 * i' + 6 ≤ a' ∧ j + 1 ≤ (L ++ R).length)
theorem mx_tv_pre : ∀ (R : List mx_pt) (V : am_M × List Int), ∃ G, (R.foldl mx_tv V).2 = V.2 ++ G := by
  intro R
  induction R with
  | nil => intro V; exact ⟨[], by rw [List.append_nil]; rfl⟩
  | cons q R ih =>
    intro V
    obtain ⟨G, hG⟩ := ih (mx_tv V q)
    refine ⟨(mx_twv V.1 q.1 q.2.1 (mx_gp V.2 q.2.2.1) (mx_gp V.2 q.2.2.2.1)).2 :: G, ?_⟩
    rw [List.foldl_cons, hG]
    unfold mx_tv
    dsimp only
    rw [List.append_assoc]; rfl
theorem mx_tal_pre (L R : List mx_pt) : ∃ G, (mx_tal μ (L ++ R)).2 = (mx_tal μ L).2 ++ G := by
  obtain ⟨G, hG⟩ := mx_tv_pre R (mx_tal μ L)
  refine ⟨G, ?_⟩
  rw [← hG]
  unfold mx_tal
  rw [List.foldl_append]
theorem re_reads_j (hg : mx_gd μ) {s S : Nat} (hs : s < 8) (hS : μ (66 + 2 * s) 1 = S) (hS2 : S ≤ 160) (hv : 0 ≤ μ 2 17 ∧ μ 2 17 < 1900000000) (h0 : τb 82 0 = μ 2 0) (dp : Nat) : ∀ (F a i : Nat) (L : List mx_pt) (O : List mx_po) (σ τ : am_M) (D : Nat), S < a + 7 * F → 6 * (L.length + O.length) ≤ a → 6 * i ≤ a → mx_rcs μ σ s a L O → mx_jr μ τb τ (mx_tx (μ (67 + 2 * s)) S) S a L → F + 8 ≤ D →
    mx_out μ τb n dp s S a L O (re_faultIn_22 (dp + 8) ((66 + 2 * s : Nat) : Int) i σ n) (mo_reads D τ n) := by
  have tb := hg.1.1.1
  have Tr : ∀ i, -2147483648 ≤ mx_tx (μ (67 + 2 * s)) S i ∧ mx_tx (μ (67 + 2 * s)) S i < 2147483648 := fun i => by
    unfold mx_tx
    split
    · exact mx_w_rg _
    · omega
  have h64 := hg.2.1
  intro F
  induction F with
  | zero =>
    intro a i L O σ τ D hF hb hi hc hr hD
    have := hr.1.2.2.2.2.2.1
    omega
  | succ F ih =>
    intro a i L O σ τ D hF hb hi hc hr hD
    obtain ⟨e, rfl⟩ : ∃ e, D = e + 9 := ⟨D - 9, by omega⟩
    have haS := hr.1.2.2.2.2.2.1
    have hll : L.length < 32 := by omega
    have hOl : O.length < 32 := by omega
    have i64 : (i : Int) < 64 := by omega
    have ht0 : τ 82 0 = μ 2 0 := by rw [hr.2.2.2 82 0 (by decide) (by decide)]; exact h0
    have bs := mx_bg_s (T := mx_tx (μ (67 + 2 * s)) S) (S := S) (a := a) (tn := μ 2 0) hr.1.2.2.2.2.1 haS
    obtain ⟨c0, c1⟩ := re_beginOne_s (n := n) hc hs hS hS2 haS hll hOl tb (dp + 3)
    obtain ⟨r0, r1⟩ := mo_reads_b (n := n) hr.1 Tr ht0 tb e
    by_cases z : (mx_bg (mx_tx (μ (67 + 2 * s)) S) (μ 2 0) a).2 = 0
    · left
      obtain ⟨τ', p1, p2, p3⟩ := r0 z
      refine ⟨(mx_bg (mx_tx (μ (67 + 2 * s)) S) (μ 2 0) a).1, am_wr σ 43 2 ((mx_bg (mx_tx (μ (67 + 2 * s)) S) (μ 2 0) a).1 : Nat), τ', L, ?_, mx_fq_wr hc.2.2.2.2.2.2 rfl, p1, p3, hr.2.1, mx_rl_fr hr.2.2.1 (fun i x q q' => p2 i x (by simp) (by simp only [List.mem_cons, List.not_mem_nil, or_false, Prod.mk.injEq]; omega)) (fun x q => p2 82 x (by simp) (by simp only [List.mem_cons, List.not_mem_nil, or_false, Prod.mk.injEq]; omega)), by omega, mx_fq_tr hr.2.2.2 (mx_fq_up p2 rfl)⟩
      rw [re_faultIn_22_e, if_pos i64, show re_beginOne (dp + 8) σ n = _ from c0 z, Option.bind_some]
      dsimp only
      rw [if_pos rfl, mx_wr_at]
    · obtain ⟨σ1, q1, q2⟩ := c1 z
      have q3 := r1 z
      obtain ⟨bs1, bs2, bs3⟩ := bs
      obtain ⟨kd, b6, o1, o2⟩ := bs3 z
      generalize (mx_bg (mx_tx (μ (67 + 2 * s)) S) (μ 2 0) a).2 = k at *
      generalize (mx_bg (mx_tx (μ (67 + 2 * s)) S) (μ 2 0) a).1 = p at *
      generalize ho : mx_tx (μ (67 + 2 * s)) S (p - 1) - 48 = o at *
      have oo : 0 ≤ o ∧ o < mx_dgs (μ 2 0) k := by omega
      clear o1 o2 ho c0 c1 r0 r1
      have rp : mx_rtx (am_wr τ 82 70 (p : Nat)) (mx_tx (μ (67 + 2 * s)) S) S p := by
        obtain ⟨g1, g2, g3, g4, g5, g6, g7⟩ := hr.1
        exact ⟨by rw [mx_wr_off (by decide)]; exact g1, by rw [mx_wr_at], by rw [mx_wr_off (by decide)]; exact g3, fun i hi => by rw [mx_wr_ne (by decide)]; exact g4 i hi, g5, bs1, g7⟩
      have rlp := mx_rl_82 (j := 70) (v := (p : Nat)) hr.2.2.1 (by decide)
      have Fp : mx_Fq mx_CT mx_PT τb (am_wr τ 82 70 (p : Nat)) := mx_fq_wr hr.2.2.2 rfl
      have m3 : (mx_tal μ L).1 2 3 < 143 := by have := hr.2.1.2.1.2; omega
      have Io : (0 : Int) ≤ (O.length : Int) ∧ (O.length : Int) < 32 := ⟨by omega, by omega⟩
      have top := q2.2.2.2.2.2.1 O.length (k, o, -1, (a : Int)) (by rw [List.getElem?_append_right (Nat.le_refl _), Nat.sub_self]; rfl)
      have ko : re_kindOpen (dp + 8) σ1 n = some (k, σ1, n) := by
        have h4 := q2.2.2.2.1
        rw [List.length_append, List.length_singleton] at h4
        have e1 : am_w (σ1 43 10 - 1) = (O.length : Nat) := by rw [h4, mx_w_id (by omega) (by omega)]; omega
        rw [re_kindOpen_e, if_pos (by rw [h4]; omega), e1, ix_50 Io.1 Io.2, Int.toNat_natCast, top.1]
      have c22 : re_faultIn_22 (dp + 8) ((66 + 2 * s : Nat) : Int) i σ n = if k = 1 then re_faultIn_72 (dp + 8) ((66 + 2 * s : Nat) : Int) i 1 σ1 n else (re_take (dp + 8) 40 σ1 n).bind fun q3 => if q3.1 = 0 then (some (q3.2.1 43 2, q3.2.1, q3.2.2)) else re_faultIn_72 (dp + 8) ((66 + 2 * s : Nat) : Int) i 0 q3.2.1 q3.2.2 := by
        rw [re_faultIn_22_e, if_pos i64, show re_beginOne (dp + 8) σ n = _ from q1, Option.bind_some]
        dsimp only
        rw [if_neg (by decide), ko, Option.bind_some]
      rw [c22, q3]
      clear c22 q3 ko q1
      by_cases k1 : k = 1
      · -- a scan
        right
        have dg : mx_dgs (μ 2 0) k = μ 2 0 := by unfold mx_dgs; rw [if_pos k1]
        obtain ⟨σ2, w1, w2⟩ := re_endOne_s (n := n) q2 hll hOl tb.2 (fun _ => by omega) (dp + 5) (x := -1) (y := -1) (Or.inl rfl) (Or.inl rfl)
        rw [if_pos k1] at w2
        have gn : ∀ G : List Int, mx_gp G (-1) = -1 := fun G => by unfold mx_gp; rw [if_pos rfl]
        have F3 := hr.2.1.2.2.2.2.2.2.2.2.1
        have V3 : (mx_tal μ L).1 3 = μ 3 := funext fun j => F3 3 j (by decide) (by simp)
        have V20 : (mx_tal μ L).1 2 0 = μ 2 0 := F3 2 0 (by decide) (by decide)
        have lm : mx_lm (mx_tal μ L).1 k o (mx_gp (mx_tal μ L).2 (-1)) (mx_gp (mx_tal μ L).2 (-1)) := by
          rw [gn]
          refine ⟨kd, ⟨oo.1, by omega⟩, fun _ => ?_, fun q => by omega, fun _ => rfl, fun q => absurd k1 q, fun _ => rfl, fun q => by omega, ?_⟩
          · rw [V20]; omega
          · unfold mx_ft; rw [if_pos k1]
        obtain ⟨g, τ3, u1, u2, u3, u4, u5⟩ := mo_told_j (n := n) (τ := am_wr τ 82 70 (p : Nat)) (L := L) hr.2.1 rlp m3 ⟨hv.1, by omega⟩ (k := k) (o := o) (x := -1) (y := -1) (cl := mx_cb k o (μ 3 (4 * o + 1).toNat) (mx_pcl L (-1))) lm (by
          rw [gn]
          unfold mx_tc mx_yc mx_pcl
          rw [if_pos k1, if_pos rfl, if_neg (by decide), V3]) (x' := 0) (y' := 0) (Or.inl rfl) (Or.inl rfl) (fun q => absurd k1 q) (fun q => by omega) (e + 5)
        have l1 : (L ++ [(k, o, (-1 : Int), (-1 : Int), mx_cb k o (μ 3 (4 * o + 1).toNat) (mx_pcl L (-1)))]).length = L.length + 1 := by rw [List.length_append, List.length_singleton]
        refine ⟨p, i, 0, [(k, o, -1, -1, mx_cb k o (μ 3 (4 * o + 1).toNat) (mx_pcl L (-1)))], g, σ2, τ3, ?_, w2, ?_, ⟨?_, u3, u4, mx_fq_tr Fp (mx_fq_up u2 rfl)⟩, by omega, by rw [l1, Nat.add_sub_cancel]; exact u5, b6, by omega, by omega, by omega⟩
        · rw [if_pos k1, re_faultIn_72_e, if_neg (by decide), show re_endOne (dp + 8) (-1) (-1) σ1 n = _ from w1, Option.bind_some]
          dsimp only
          rw [show re_endAround (dp + 8) σ2 n = _ from re_endAround_e (dp + 7) σ2 n]
          rfl
        · unfold mx_r173
          rw [if_pos k1, show mo_told (e + 8) k o 0 0 (am_wr τ 82 70 (p : Nat)) n = _ from u1, Option.bind_some]
        · obtain ⟨g1, g2, g3, g4, g5, g6, g7⟩ := rp
          exact ⟨by rw [u2 82 69 (by decide) (by decide)]; exact g1, by rw [u2 82 70 (by decide) (by decide)]; exact g2, by rw [u2 82 6 (by decide) (by decide)]; exact g3, fun i hi => by rw [u2 136 i (by decide) (by simp)]; exact g4 i hi, g5, g6, g7⟩
      · -- others
        have o8 : o < 8 ∧ (4 ≤ k → o < 4) := by
          unfold mx_dgs at oo
          rw [if_neg k1] at oo
          by_cases q : k = 3
          · rw [if_pos q] at oo; omega
          · rw [if_neg q] at oo; omega
        have tk := re_take_s (n := n) (dp + 4) s S p 40 hs (by omega) q2.1 q2.2.1 (by rw [mx_rcs_k q2 (by omega)]; exact hS) hS2
        rw [mx_rcs_k q2 (i := 67 + 2 * s) (by omega)] at tk
        have gs := mo_goes_s (n := n) (e + 7) S p 40 (by decide) rp
        rw [if_neg k1, show re_take (dp + 8) 40 σ1 n = _ from tk]
        unfold mx_r173
        rw [if_neg k1, show mo_goes (e + 8) 40 (am_wr τ 82 70 (p : Nat)) n = _ from gs]
        clear tk gs
        by_cases t40 : mx_tx (μ (67 + 2 * s)) S p = 40
        · have pS := mx_rtx_in rp (by decide) t40
          rw [if_pos t40, if_pos t40, Option.bind_some, Option.bind_some]
          dsimp only
          rw [if_neg (by decide), if_neg (by decide), mx_wr_wr]
          have rp1 := mx_rtx_go rp pS
          rw [mx_wr_wr] at rp1
          have rlp1 := mx_rl_82 (j := 70) (v := ((p + 1 : Nat) : Int)) hr.2.2.1 (by decide)
          have Fp1 : mx_Fq mx_CT mx_PT τb (am_wr τ 82 70 ((p + 1 : Nat) : Int)) := mx_fq_wr hr.2.2.2 rfl
          have cs1 := mx_rcs_at (a' := p + 1) q2
          have Ol : (O ++ [(k, o, (-1 : Int), (a : Int))]).length = O.length + 1 := by rw [List.length_append, List.length_singleton]
          have J := ih (p + 1) (i + 1) L (O ++ [(k, o, -1, (a : Int))]) (am_wr σ1 43 2 ((p + 1 : Nat) : Int)) (am_wr τ 82 70 ((p + 1 : Nat) : Int)) (e + 8) (by omega) (by rw [Ol]; omega) (by omega) cs1 ⟨rp1, hr.2.1, rlp1, Fp1⟩ (by omega)
          have c72 : re_faultIn_72 (dp + 8) ((66 + 2 * s : Nat) : Int) i 0 (am_wr σ1 43 2 ((p + 1 : Nat) : Int)) n = re_faultIn_22 (dp + 8) ((66 + 2 * s : Nat) : Int) ((i + 1 : Nat) : Int) (am_wr σ1 43 2 ((p + 1 : Nat) : Int)) n := by rw [re_faultIn_72_e, if_pos rfl, mx_w_nat (by omega)]
          rw [c72]
          rcases J with ⟨f, σ', τ', L', j1, j2, j3, j4, j5, j6, j7, j8⟩ | ⟨a', i', j, R, g, σ', τ', j1, j2, j3, j4, j5, j6, j7, j8, j9, j10⟩
          · left
            refine ⟨f, σ', τ', L', j1, j2, ?_, j4, j5, j6, j7, j8⟩
            rw [j3, Option.bind_some]
            dsimp only
            rw [if_neg (by rw [j4]; omega)]
          · rw [Ol] at j8
            have haS' := j4.1.2.2.2.2.2.1
            have l32 : (L ++ R).length < 32 := by omega
            have m3' : (mx_tal μ (L ++ R)).1 2 3 < 143 := by have := j4.2.1.2.1.2; omega
            have bv' : 0 ≤ μ 2 17 ∧ μ 2 17 + (L ++ R).length < 2000000000 := ⟨hv.1, by omega⟩
            have e2 := re_endAround_2_s (n := n) j2 l32 hOl j5 dp j (by omega)
            rw [j1, j3, Option.bind_some]
            dsimp only
            rw [if_pos j4.1.2.2.1]
            rw [e2]
            clear e2 j1 j3
            by_cases k5 : k < 5
            · -- of one
              have n56 : ¬ (k = 5 ∨ k = 6) := by omega
              rw [if_neg n56, if_pos k5, re_endAround_55_e, if_pos rfl]
              have C := close_j (n := n) j2 j4 hs hS l32 hOl tb.2 kd k1 ⟨oo.1, o8.1⟩ o8.2 m3' bv' dp j e (by omega) (ix := (L ++ R).length - 1) (by omega) (y := -1) (Or.inl ⟨k5, rfl⟩) (last := (((L ++ R).length - 1 : Nat) : Int)) (v4 := 0) (Or.inl ⟨rfl, rfl, rfl⟩) (gx := g) (gy := g) j6 (fun q => by omega)
              rcases C with ⟨f, σ2, τ2, x1, x2, x3, x4, x5, x6⟩ | ⟨q, g2, σ2, τ2, x1, x2, x3, x4, x5⟩
              · left
                refine ⟨f, σ2, τ2, L ++ R, ?_, x2, x3, x4, j4.2.1, x5, by omega, x6⟩
                rw [x1, Option.bind_some, mx_Kr_f]
              · right
                have lq : (L ++ (R ++ [q])).length = (L ++ R).length + 1 := by rw [← List.append_assoc, List.length_append (bs := [q]), List.length_singleton]
                refine ⟨a' + 1, i', j + 1, R ++ [q], g2, σ2, τ2, by rw [x1], by rw [← List.append_assoc]; exact x2, x3, by rw [← List.append_assoc]; exact x4, by omega, ?_, by omega, by omega, by omega, by omega⟩
                rw [lq, Nat.add_sub_cancel, ← List.append_assoc]
                exact x5
            · -- of two
              have n56 : k = 5 ∨ k = 6 := by rcases kd with q | q | q | q | q <;> omega
              rw [if_pos n56, if_neg k5]
              obtain ⟨σ2, y1, y2⟩ := re_endAround_55_s (n := n) j2 hs hS hS2 haS' hOl dp j (((L ++ R).length - 1 : Nat) : Int)
              have gs := mo_goes_s (n := n) (e + 7) S a' 44 (by decide) j4.1
              rw [y2, show mo_goes (e + 8) 44 τ' n = _ from gs]
              clear y2 gs
              by_cases t44 : mx_tx (μ (67 + 2 * s)) S a' = 44
              · have aS' := mx_rtx_in j4.1 (by decide) t44
                have cs2 := mx_rcs_at (a' := a' + 1) y1
                have rp2 := mx_rtx_go j4.1 aS'
                have rl2 := mx_rl_82 (j := 70) (v := ((a' + 1 : Nat) : Int)) j4.2.2.1 (by decide)
                have Fp2 : mx_Fq mx_CT mx_PT τb (am_wr τ' 82 70 ((a' + 1 : Nat) : Int)) := mx_fq_wr j4.2.2.2 rfl
                have Ol2 : (O ++ [(k, o, (((L ++ R).length - 1 : Nat) : Int), (a : Int))]).length = O.length + 1 := by rw [List.length_append, List.length_singleton]
                have h10 : am_wr σ2 43 2 ((a' + 1 : Nat) : Int) 43 10 ≠ 0 := by
                  rw [mx_wr_off (by decide), y1.2.2.2.1, Ol2]; omega
                have J2 := ih (a' + 1) (i' + 1) (L ++ R) (O ++ [(k, o, (((L ++ R).length - 1 : Nat) : Int), (a : Int))]) (am_wr σ2 43 2 ((a' + 1 : Nat) : Int)) (am_wr τ' 82 70 ((a' + 1 : Nat) : Int)) (e + 8) (by omega) (by rw [Ol2]; omega) (by omega) cs2 ⟨rp2, j4.2.1, rl2, Fp2⟩ (by omega)
                rw [if_pos t44, if_pos t44, Option.bind_some, Option.bind_some, mx_Kr_n dp ((66 + 2 * s : Nat) : Int) i' h10, mx_w_nat (by omega)]
                dsimp only
                rw [if_neg (by decide)]
                clear ih
                rcases J2 with ⟨f, σ3, τ3, L', v1, v2, v3, v4, v5, v6, v7, v8⟩ | ⟨a2, i2, j2', R2, g2, σ3, τ3, v1, v2, v3, v4, v5, v6, v7, v8, v9, v10⟩
                · left
                  refine ⟨f, σ3, τ3, L', v1, v2, ?_, v4, v5, v6, v7, v8⟩
                  rw [v3, Option.bind_some]
                  dsimp only
                  rw [if_neg (by rw [v4]; omega)]
                · rw [Ol2] at v8
                  have ha2 := v4.1.2.2.2.2.2.1
                  have l32' : (L ++ R ++ R2).length < 32 := by omega
                  have lRR : (L ++ R ++ R2).length = (L ++ R).length + R2.length := List.length_append
                  have m3'' : (mx_tal μ (L ++ R ++ R2)).1 2 3 < 143 := by have := v4.2.1.2.1.2; omega
                  have bv'' : 0 ≤ μ 2 17 ∧ μ 2 17 + (L ++ R ++ R2).length < 2000000000 := ⟨hv.1, by omega⟩
                  have e3 := re_endAround_2_s (n := n) v2 l32' hOl v5 dp j2' (by omega)
                  have n56' : (k, o, (((L ++ R).length - 1 : Nat) : Int), (a : Int)).1 = 5 ∨ (k, o, (((L ++ R).length - 1 : Nat) : Int), (a : Int)).1 = 6 := n56
                  rw [if_pos n56', re_endAround_55_t v2 hOl (by omega)] at e3
                  obtain ⟨G, hG⟩ := mx_tal_pre (μ := μ) (L ++ R) R2
                  have hgx : (mx_tal μ (L ++ R ++ R2)).2[(L ++ R).length - 1]? = some g := by
                    rw [hG, List.getElem?_append_left (List.getElem?_eq_some_iff.mp j6).1]; exact j6
                  rw [v1, v3, Option.bind_some]
                  dsimp only
                  rw [if_pos v4.1.2.2.1, e3]
                  clear e3 v1 v3
                  have C := close_j (n := n) v2 v4 hs hS l32' hOl tb.2 kd k1 ⟨oo.1, o8.1⟩ o8.2 m3'' bv'' dp j2' e (by omega) (ix := (L ++ R).length - 1) (by omega) (y := (((L ++ R ++ R2).length - 1 : Nat) : Int)) (Or.inr ⟨by omega, _, rfl, by omega⟩) (last := (((L ++ R ++ R2).length - 1 : Nat) : Int)) (v4 := 1) (Or.inr ⟨rfl, rfl, rfl⟩) (gx := g) (gy := g2) hgx (fun _ iy hy => by
                    have : iy = (L ++ R ++ R2).length - 1 := by omega
                    rw [this]; exact v6)
                  rcases C with ⟨f, σ4, τ4, x1, x2, x3, x4, x5, x6⟩ | ⟨q, g3, σ4, τ4, x1, x2, x3, x4, x5⟩
                  · left
                    refine ⟨f, σ4, τ4, L ++ R ++ R2, ?_, x2, x3, x4, v4.2.1, x5, by omega, x6⟩
                    rw [x1, Option.bind_some, mx_Kr_f]
                  · right
                    have lq : (L ++ (R ++ R2 ++ [q])).length = (L ++ R ++ R2).length + 1 := by simp only [List.length_append, List.length_singleton]; omega
                    have as : L ++ (R ++ R2 ++ [q]) = L ++ R ++ R2 ++ [q] := by simp only [List.append_assoc]
                    refine ⟨a2 + 1, i2, j2' + 1, R ++ R2 ++ [q], g3, σ4, τ4, by rw [x1], by rw [as]; exact x2, x3, by rw [as]; exact x4, by omega, ?_, by omega, by omega, by omega, by omega⟩
                    rw [lq, Nat.add_sub_cancel, as]
                    exact x5
              · left
                rw [if_neg t44, if_neg t44, Option.bind_some, Option.bind_some, mx_Kr_f]
                dsimp only
                rw [if_pos rfl]
                exact ⟨a', σ2, _, L ++ R, rfl, y1.2.2.2.2.2.2, rfl, mx_wr_at, j4.2.1, mx_rl_82 j4.2.2.1 (by decide), by omega, mx_fq_wr j4.2.2.2 rfl⟩
        · left
          rw [if_neg t40, if_neg t40, Option.bind_some, Option.bind_some]
          dsimp only
          rw [if_pos rfl, if_pos rfl, q2.2.1]
          exact ⟨p, σ1, _, L, rfl, q2.2.2.2.2.2.2, rfl, mx_wr_at, hr.2.1, mx_rl_82 rlp (by decide), by omega, mx_fq_wr Fp rfl⟩
end
