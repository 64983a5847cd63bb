/-! READ: both close an expression -/
section
variable {n : Nat} {σ μ τ τb : am_M} {T : Nat → Int}
abbrev mx_CT : List Nat := [89, 90, 91, 92, 93, 94, 95, 104, 105, 106]
abbrev mx_PT : List (Nat × Nat) := [(82, 1), (82, 2), (82, 6), (82, 70)]
def mx_jr (μ τb τ : am_M) (T : Nat → Int) (S a : Nat) (L : List mx_pt) : Prop := mx_rtx τ T S a ∧ mx_vj μ L (mx_tal μ L) ∧ mx_rl (mx_tal μ L).1 τ ∧ mx_Fq mx_CT mx_PT τb τ
theorem mx_vj_at {L : List mx_pt} {V : am_M × List Int} (h : mx_vj μ L V) {i : Nat} (hi : i < L.length) : ∃ g : Nat, V.2[i]? = some (g : Int) ∧ mx_gp V.2 (i : Int) = g ∧ (g : Int) < V.1 2 9 ∧ V.1 10 g = g ∧ V.1 11 g = mx_pcl L i := by
  have hx : L[i]? = some L[i] := List.getElem?_eq_getElem hi
  obtain ⟨g, g1, g2, g3, g4⟩ := h.2.2.2.2.1 i _ hx
  refine ⟨g, g1, ?_, g2, g3, ?_⟩
  · unfold mx_gp
    rw [if_neg (by omega), Int.toNat_natCast, List.getD_eq_getElem?_getD, g1]; rfl
  · unfold mx_pcl
    rw [if_neg (by omega), Int.toNat_natCast, hx]
    exact g4
theorem mx_rtx_go {S a : Nat} (h : mx_rtx τ T S a) (ha : a + 1 ≤ S) : mx_rtx (am_wr τ 82 70 ((a + 1 : Nat) : Int)) T S (a + 1) := by
  obtain ⟨h1, h2, h3, h4, h5, h6, h7⟩ := h
  exact ⟨by rw [mx_wr_off (by decide)]; exact h1, by rw [mx_wr_at], by rw [mx_wr_off (by decide)]; exact h3, fun i hi => by rw [mx_wr_ne (by decide)]; exact h4 i hi, h5, ha, h7⟩
theorem mx_rtx_in {S a : Nat} (h : mx_rtx τ T S a) {c : Int} (hc : 0 ≤ c) (ha : T a = c) : a + 1 ≤ S := by
  obtain ⟨-, -, -, -, h5, -, -⟩ := h
  by_cases q : S ≤ a
  · have := h5 a q; omega
  · omega
theorem mx_rl_82 {j : Nat} {v : Int} {V : am_M} (h : mx_rl V τ) (hj : 3 ≤ j) : mx_rl V (am_wr τ 82 j v) := mx_rl_fr h (fun i x a b => by rw [mx_wr_ne (by omega)]) (fun x q => by rw [mx_wr_off (by omega)])
/-- the class closes, up to what fits -/
theorem re_endAround_97_s {s S a : Nat} {L : List mx_pt} {O : List mx_po} {k o l f : Int} (h : mx_rcs μ σ s a L (O ++ [(k, o, l, f)])) (hs : s < 8) (hS : μ (66 + 2 * s) 1 = S) (hS2 : S ≤ 160) (ha : a ≤ S) (hO : O.length < 32) (dp : Nat) (j last v4 x y : Int) (hv : (v4 = 0 ∧ x = last ∧ y = -1) ∨ (v4 = 1 ∧ x = l ∧ y = last)) :
    re_endAround_97 (dp + 7) j O.length last v4 σ n = if mx_tx (μ (67 + 2 * s)) S a = 41 then re_endAround_138 (dp + 7) j O.length x y (am_wr σ 43 2 ((a + 1 : Nat) : Int)) n else some ((a : Int), σ, n) := by
  have top := h.2.2.2.2.2.1 O.length (k, o, l, f) (by rw [List.getElem?_append_right (Nat.le_refl _), Nat.sub_self]; rfl)
  have tk := re_take_s (n := n) (dp + 3) s S a 41 hs (by omega) h.1 h.2.1 (by rw [mx_rcs_k h (by omega)]; exact hS) hS2
  rw [mx_rcs_k h (i := 67 + 2 * s) (by omega)] at tk
  have Io : (0 : Int) ≤ (O.length : Int) ∧ (O.length : Int) < 32 := ⟨by omega, by omega⟩
  rw [re_endAround_97_e, show re_take (dp + 7) 41 σ n = _ from tk]
  by_cases z : mx_tx (μ (67 + 2 * s)) S a = 41
  · rw [if_pos z, if_pos z, Option.bind_some]
    dsimp only
    rw [if_neg (by decide)]
    rcases hv with ⟨q, q1, q2⟩ | ⟨q, q1, q2⟩
    · rw [if_pos q, if_pos q, q1, q2]
    · rw [if_neg (by omega), ix_52 Io.1 Io.2, if_neg (by omega), Int.toNat_natCast, mx_wr_ne (show (52 : Nat) ≠ 43 by decide), top.2.2.1, q1, q2]
  · rw [if_neg z, if_neg z, Option.bind_some]
    dsimp only
    rw [if_pos rfl, h.2.1]
theorem re_endAround_138_s {s a : Nat} {L : List mx_pt} {O : List mx_po} {k o l f : Int} (h : mx_rcs μ σ s a L (O ++ [(k, o, l, f)])) (hl : L.length < 32) (hO : O.length < 32) (ht : μ 2 0 ≤ 8) (hk1 : k ≠ 1) (dp j : Nat) (hj : j < 100) {x y : Int} (hx : x = -1 ∨ ∃ i : Nat, x = i ∧ i < L.length) (hy : y = -1 ∨ ∃ i : Nat, y = i ∧ i < L.length) :
    (mx_ft k o (mx_pcl L x) (mx_pcl L y) = false → re_endAround_138 (dp + 7) j O.length x y σ n = some (f, σ, n)) ∧
    (mx_ft k o (mx_pcl L x) (mx_pcl L y) = true → ∃ σ' : am_M, re_endAround_138 (dp + 7) j O.length x y σ n = re_endAround_2 (dp + 7) ((j + 1 : Nat) : Int) σ' n ∧ mx_rcs μ σ' s a (L ++ [(k, o, x, y, mx_cb k o (mx_pcl L x) (mx_pcl L y))]) O) := by
  have top := h.2.2.2.2.2.1 O.length (k, o, l, f) (by rw [List.getElem?_append_right (Nat.le_refl _), Nat.sub_self]; rfl)
  obtain ⟨t1, t2, -, t4⟩ := top
  dsimp only at t1 t2 t4
  have Io : (0 : Int) ≤ (O.length : Int) ∧ (O.length : Int) < 32 := ⟨by omega, by omega⟩
  have cx := re_columnsOf_s (n := n) (s := s) (a := a) (O := O) h.2.2.1 (fun i q hq => (h.2.2.2.2.1 i q hq).2.2.2.2) (by omega) (dp + 6) hx
  have cy := re_columnsOf_s (n := n) (s := s) (a := a) (O := O) h.2.2.1 (fun i q hq => (h.2.2.2.2.1 i q hq).2.2.2.2) (by omega) (dp + 6) hy
  obtain ⟨σ', e1, e2⟩ := re_endOne_s (n := n) h hl hO ht (fun q => absurd q hk1) (dp + 4) hx hy
  rw [if_neg hk1] at e2
  have go : re_endAround_138 (dp + 7) j O.length x y σ n = if mx_ft k o (mx_pcl L x) (mx_pcl L y) = true then re_endAround_2 (dp + 7) ((j + 1 : Nat) : Int) σ' n else some (f, σ, n) := by
    rw [re_endAround_138_e, ix_50 Io.1 Io.2, ix_51 Io.1 Io.2, Int.toNat_natCast, t1, t2, show re_columnsOf (dp + 7) x σ n = _ from cx, Option.bind_some]
    dsimp only
    rw [show re_columnsOf (dp + 7) y σ n = _ from cy, Option.bind_some]
    dsimp only
    rw [pm_fitsColumns_s, Option.bind_some]
    dsimp only
    cases mx_ft k o (mx_pcl L x) (mx_pcl L y) with
    | false => rw [mx_bF, ix_53 Io.1 Io.2, if_neg (by decide), t4]
    | true =>
      rw [mx_bT, if_pos rfl, show re_endOne (dp + 7) x y σ n = _ from e1, Option.bind_some]
      dsimp only
      rw [mx_w_nat (by omega)]
  exact ⟨fun q => by rw [go, if_neg (by rw [q]; decide)], fun q => ⟨σ', by rw [go, if_pos q], e2⟩⟩
/-- both close -/
theorem close_j {s S a : Nat} {L : List mx_pt} {O : List mx_po} {k o l : Int} {f : Nat} (h : mx_rcs μ σ s a L (O ++ [(k, o, l, (f : Int))])) (hr : mx_jr μ τb τ (mx_tx (μ (67 + 2 * s)) S) S a L) (hs : s < 8) (hS : μ (66 + 2 * s) 1 = S) (hl : L.length < 32) (hO : O.length < 32) (ht : μ 2 0 ≤ 8)
    (hk : mx_kd k) (hk1 : k ≠ 1) (ho : 0 ≤ o ∧ o < 8) (ho4 : 4 ≤ k → o < 4) (b1 : (mx_tal μ L).1 2 3 < 143) (b2 : 0 ≤ μ 2 17 ∧ μ 2 17 + L.length < 2000000000) (dp j e : Nat) (hj : j < 100) {ix : Nat} (hix : ix < L.length) {y : Int} (hy : (k < 5 ∧ y = -1) ∨ (5 ≤ k ∧ ∃ iy : Nat, y = iy ∧ iy < L.length)) {last v4 : Int} (hv : (v4 = 0 ∧ (ix : Int) = last ∧ y = -1) ∨ (v4 = 1 ∧ (ix : Int) = l ∧ y = last)) {gx gy : Int} (hgx : (mx_tal μ L).2[ix]? = some gx) (hgy : 5 ≤ k → ∀ iy : Nat, y = iy → (mx_tal μ L).2[iy]? = some gy) :
    (∃ (g : Nat) (σ' τ' : am_M), re_endAround_97 (dp + 7) j O.length last v4 σ n = some ((g : Int), σ', n) ∧ mx_Fq mx_CR mx_Prr μ σ' ∧ mo_reads_266 (e + 8) f k o gx gy τ n = some (-1, τ', n) ∧ τ' 82 6 = (g : Nat) ∧ mx_rl (mx_tal μ L).1 τ' ∧ mx_Fq mx_CT mx_PT τb τ') ∨
    (∃ (q : mx_pt) (g : Int) (σ' τ' : am_M), re_endAround_97 (dp + 7) j O.length last v4 σ n = re_endAround_2 (dp + 7) ((j + 1 : Nat) : Int) σ' n ∧ mx_rcs μ σ' s (a + 1) (L ++ [q]) O ∧ mo_reads_266 (e + 8) f k o gx gy τ n = some (g, τ', n) ∧ mx_jr μ τb τ' (mx_tx (μ (67 + 2 * s)) S) S (a + 1) (L ++ [q]) ∧ (mx_tal μ (L ++ [q])).2[L.length]? = some g) := by
  obtain ⟨rt, vj, rl, Ft⟩ := hr
  have rtt := rt
  have hS2 := rt.2.2.2.2.2.2
  have haS := rt.2.2.2.2.2.1
  have e97 := re_endAround_97_s (n := n) h hs hS hS2 haS hO dp j last v4 ix y hv
  have gs := mo_goes_s (n := n) (e + 7) S a 41 (by decide) rt
  obtain ⟨G, G1, G2, G3, G4, G5⟩ := mx_vj_at vj hix
  rw [hgx] at G1
  cases G1
  have hyy : y = -1 ∨ ∃ i : Nat, y = i ∧ i < L.length := by
    rcases hy with q | q
    · exact Or.inl q.2
    · exact Or.inr q.2
  have Y : 5 ≤ k → ∃ H : Nat, gy = H ∧ mx_gp (mx_tal μ L).2 y = H ∧ (H : Int) < (mx_tal μ L).1 2 9 ∧ (mx_tal μ L).1 10 H = H ∧ (mx_tal μ L).1 11 H = mx_pcl L y := fun q => by
    rcases hy with z | ⟨-, iy, z1, z2⟩
    · omega
    · obtain ⟨H, H1, H2, H3, H4, H5⟩ := mx_vj_at vj z2
      have := hgy q iy z1
      rw [H1] at this
      cases this
      exact ⟨H, rfl, by rw [z1]; exact H2, H3, H4, by rw [z1]; exact H5⟩
  rw [e97]
  by_cases z : mx_tx (μ (67 + 2 * s)) S a = 41
  · have aS := mx_rtx_in rtt (by decide) z
    rw [if_pos z] at gs ⊢
    have r1 := mx_rtx_go rtt aS
    have h1 := mx_rcs_at (a' := a + 1) h
    have rl1 := mx_rl_82 (j := 70) (v := ((a + 1 : Nat) : Int)) rl (by decide)
    have Ft1 : mx_Fq mx_CT mx_PT τb (am_wr τ 82 70 ((a + 1 : Nat) : Int)) := mx_fq_wr Ft rfl
    obtain ⟨τ2, m1, m2⟩ := mo_may_s vj.1 rl1.1 rl1.2 (e + 5) n k o G gy hk hk1 ⟨by omega, G3⟩ (fun q => by
      obtain ⟨H, H1, H2, H3, H4, H5⟩ := Y q
      rw [H1]; exact ⟨by omega, H3⟩) (mx_pcl L y) (fun q => by
      obtain ⟨H, H1, H2, H3, H4, H5⟩ := Y q
      rw [H1, Int.toNat_natCast, H4, Int.toNat_natCast, H5])
    rw [Int.toNat_natCast, G4, Int.toNat_natCast, G5] at m1
    have M2 := mx_fq_of m2
    have rl2 : mx_rl (mx_tal μ L).1 τ2 := mx_rl_fr rl1 (fun i x q q' => M2 i x (by simp only [List.mem_cons, List.not_mem_nil, or_false, not_or]; omega) (by simp)) (fun x _ => M2 82 x (by decide) (by simp))
    have r2 : mx_rtx τ2 (mx_tx (μ (67 + 2 * s)) S) S (a + 1) := by
      obtain ⟨c1, c2, c3, c4, c5, c6, c7⟩ := r1
      exact ⟨by rw [M2 82 69 (by decide) (by simp)]; exact c1, by rw [M2 82 70 (by decide) (by simp)]; exact c2, by rw [M2 82 6 (by decide) (by simp)]; exact c3, fun i hi => by rw [M2 136 i (by decide) (by simp)]; exact c4 i hi, c5, c6, c7⟩
    have Ft2 : mx_Fq mx_CT mx_PT τb τ2 := mx_fq_tr Ft1 (mx_fq_up M2 rfl)
    obtain ⟨f1, f2⟩ := re_endAround_138_s (n := n) h1 hl hO ht hk1 dp j hj (x := (ix : Int)) (y := y) (Or.inr ⟨ix, rfl, hix⟩) hyy
    have go : mo_reads_266 (e + 8) f k o G gy τ n = if mx_ft k o (mx_pcl L ix) (mx_pcl L y) = true then ((mo_told (e + 8) k o G gy τ2 n).bind fun q3 => some (q3.1, q3.2.1, q3.2.2)) else some (-1, am_wr τ2 82 6 (f : Nat), n) := by
      rw [mo_reads_266_e, show mo_goes (e + 8) 41 τ n = _ from gs, Option.bind_some]
      dsimp only
      rw [if_neg (by decide), show mo_may (e + 8) k o G gy (am_wr τ 82 70 ((a + 1 : Nat) : Int)) n = _ from m1, Option.bind_some]
      dsimp only
      cases mx_ft k o (mx_pcl L ix) (mx_pcl L y) with
      | false => rw [mx_bF, if_neg (by decide), mx_m]
      | true => rw [mx_bT, if_pos rfl]
    rw [go]
    cases hf : mx_ft k o (mx_pcl L ix) (mx_pcl L y) with
    | false =>
      left
      refine ⟨f, _, _, f1 hf, h1.2.2.2.2.2.2, by rw [if_neg (by decide)], by rw [mx_wr_at], mx_rl_82 rl2 (by decide), mx_fq_wr Ft2 rfl⟩
    | true =>
      right
      obtain ⟨σ', u1, u2⟩ := f2 hf
      have tc : mx_tc ((mx_tal μ L).1 3) ((mx_tal μ L).1 11) k o (mx_gp (mx_tal μ L).2 (ix : Int)) = mx_pcl L ix := by
        unfold mx_tc
        rw [if_neg hk1, G2, if_pos (by omega), Int.toNat_natCast, G5]
      have yc : mx_yc ((mx_tal μ L).1 11) (mx_gp (mx_tal μ L).2 y) = mx_pcl L y := by
        unfold mx_yc
        rcases hy with q | q
        · have : mx_gp (mx_tal μ L).2 y = -1 := by unfold mx_gp; rw [if_pos q.2]
          rw [this, if_neg (by decide)]
          unfold mx_pcl
          rw [if_pos q.2]
        · obtain ⟨H, H1, H2, H3, H4, H5⟩ := Y q.1
          rw [H2, if_pos (by omega), Int.toNat_natCast, H5]
      have lm : mx_lm (mx_tal μ L).1 k o (mx_gp (mx_tal μ L).2 (ix : Int)) (mx_gp (mx_tal μ L).2 y) := by
        refine ⟨hk, ho, fun q => absurd q hk1, ho4, fun q => absurd q hk1, fun _ => ?_, fun q => ?_, fun q => ?_, ?_⟩
        · rw [G2, Int.toNat_natCast]; exact ⟨by omega, G3, G4⟩
        · rcases hy with w | w
          · unfold mx_gp; rw [if_pos w.2]
          · omega
        · obtain ⟨H, H1, H2, H3, H4, H5⟩ := Y q
          rw [H2, Int.toNat_natCast]; exact ⟨by omega, H3, H4⟩
        · rw [tc, yc]; exact hf
      obtain ⟨g, τ3, w1, w2, w3, w4, w5⟩ := mo_told_j (n := n) (τ := τ2) (L := L) vj rl2 b1 b2 (k := k) (o := o) (x := (ix : Int)) (y := y) (cl := mx_cb k o (mx_pcl L ix) (mx_pcl L y)) lm (by rw [tc, yc]) (x' := (G : Int)) (y' := gy) (Or.inr ⟨ix, rfl, hix⟩) hyy (fun _ => G2.symm) (fun q => by
        obtain ⟨H, H1, H2, H3, H4, H5⟩ := Y q
        rw [H1, H2]) (e + 5)
      refine ⟨(k, o, (ix : Int), y, mx_cb k o (mx_pcl L ix) (mx_pcl L y)), g, σ', τ3, u1, u2, ?_, ⟨?_, w3, w4, mx_fq_tr Ft2 (mx_fq_up w2 rfl)⟩, w5⟩
      · rw [if_pos rfl, show mo_told (e + 8) k o G gy τ2 n = _ from w1, Option.bind_some]
      · obtain ⟨c1, c2, c3, c4, c5, c6, c7⟩ := r2
        exact ⟨by rw [w2 82 69 (by decide) (by decide)]; exact c1, by rw [w2 82 70 (by decide) (by decide)]; exact c2, by rw [w2 82 6 (by decide) (by decide)]; exact c3, fun i hi => by rw [w2 136 i (by decide) (by simp)]; exact c4 i hi, c5, c6, c7⟩
  · left
    rw [if_neg z] at gs ⊢
    refine ⟨a, σ, am_wr τ 82 6 (a : Nat), rfl, h.2.2.2.2.2.2, ?_, mx_wr_at, mx_rl_82 rl (by decide), mx_fq_wr Ft rfl⟩
    rw [mo_reads_266_e, show mo_goes (e + 8) 41 τ n = _ from gs, Option.bind_some]
    dsimp only
    rw [if_pos rfl]
end
