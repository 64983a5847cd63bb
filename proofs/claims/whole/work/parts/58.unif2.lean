section
variable {σ : am_M} {a b : Int}
theorem mx_un_ak {τ : am_M} {U : Nat → Int} (hu : mx_un σ τ a b U) {e f : Nat} (he : (e : Int) < σ 2 3) (hf : (f : Int) < σ 2 3) (h1 : τ 9 e ≠ -1) (h2 : τ 9 f ≠ -1) : mx_ak τ f e ↔ mx_lk (σ 5) (σ 6) (σ 7) (σ 8) U f e := by
  obtain ⟨u1, u2, u3, u4, u5, u6, u7, u8⟩ := hu
  obtain ⟨-, x1, y1, -⟩ := u6 e he h1
  obtain ⟨-, x2, y2, -⟩ := u6 f hf h2
  unfold mx_ak mx_lk
  rw [u1 5 (by decide), u1 6 (by decide), x1, x2, y1, y2]
theorem mx_rn_m1 {lo hi v : Int} (h1 : 0 ≤ lo) (h2 : 0 ≤ hi) : mx_rn lo hi v = -1 ↔ v = -1 := by
  unfold mx_rn
  split <;> omega
theorem mx_un_drop (hS : mx_sh (σ 2 3) (σ 2 9) (σ 5) (σ 7) (σ 8) (σ 9) (σ 10)) (hg : σ 2 9 ≤ 64) (hm : σ 2 3 ≤ 64) {τ τ' : am_M} {U : Nat → Int} (hu : mx_un σ τ a b U) {e f : Nat} (hfe : f < e) (he : (e : Int) < σ 2 3) (h1 : τ 9 e ≠ -1) (h2 : τ 9 f ≠ -1) (hk : mx_ak τ f e) (hd : mx_dr τ τ' e f) :
    mx_un σ τ' a b (fun i => mx_rn (am_mn (τ 9 f) (τ 9 e)) (am_mx (τ 9 f) (τ 9 e)) (U i)) ∧ mx_ct (fun j => decide (τ' 9 j ≠ -1)) (σ 2 3).toNat < mx_ct (fun j => decide (τ 9 j ≠ -1)) (σ 2 3).toNat := by
  have hl := (mx_un_ak hu he (by omega) h1 h2).mp hk
  obtain ⟨u1, u2, u3, u4, u5, u6, u7, u8⟩ := hu
  obtain ⟨d1, d2, d3, d4, d5, d6⟩ := hd
  obtain ⟨n1, x1, y1, z1⟩ := u6 e he h1
  obtain ⟨n2, x2, y2, z2⟩ := u6 f (by omega) h2
  obtain ⟨s1, -, -⟩ := hS.1 e he n1
  obtain ⟨s2, -, -⟩ := hS.1 f (by omega) n2
  obtain ⟨r1, r2, r3⟩ := u3.1 (σ 9 e).toNat (by omega)
  obtain ⟨q1, q2, q3⟩ := u3.1 (σ 9 f).toNat (by omega)
  rw [mx_q_nn s1.1] at z1
  rw [mx_q_nn s2.1] at z2
  have g1 : 0 ≤ τ 9 e ∧ τ 9 e < σ 2 9 ∧ U (τ 9 e).toNat = τ 9 e := by rw [z1]; exact ⟨r1, by omega, r3⟩
  have g2 : 0 ≤ τ 9 f ∧ τ 9 f < σ 2 9 ∧ U (τ 9 f).toNat = τ 9 f := by rw [z2]; exact ⟨q1, by omega, q3⟩
  have hor := mx_mn_or (τ 9 f) (τ 9 e)
  have hle := mx_mn_le (τ 9 f) (τ 9 e)
  have c23 : τ 2 = σ 2 := u1 2 (by decide)
  rw [c23] at d2 d3 d4 d5
  have hMb := mx_Mb_ml (mx_Mb_out u8 hg he hm ⟨g1.1, g1.2.1⟩) hg ⟨g2.1, g2.2.1⟩ ⟨g1.1, g1.2.1⟩
  rw [← d4, ← d6] at hMb
  have hQ : ∀ Q, mx_clo (σ 2 3) (σ 2 9) (σ 5) (σ 6) (σ 7) (σ 8) (σ 9) (σ 10) a b Q → Q (am_mn (τ 9 f) (τ 9 e)).toNat = Q (am_mx (τ 9 f) (τ 9 e)).toNat := by
    intro Q hQ
    have := mx_clo_homes hS u3 (by omega) he n2 n1 hl Q hQ
    rw [mx_q_nn s1.1, mx_q_nn s2.1, ← z1, ← z2] at this
    rcases hor with ⟨o1, o2⟩ | ⟨o1, o2⟩
    · rw [o1, o2]; exact this
    · rw [o1, o2]; exact this.symm
  have hlo : 0 ≤ am_mn (τ 9 f) (τ 9 e) ∧ am_mn (τ 9 f) (τ 9 e) < σ 2 9 ∧ U (am_mn (τ 9 f) (τ 9 e)).toNat = am_mn (τ 9 f) (τ 9 e) := by
    rcases hor with ⟨o1, o2⟩ | ⟨o1, o2⟩ <;> rw [o1] <;> assumption
  have hhi : 0 ≤ am_mx (τ 9 f) (τ 9 e) ∧ am_mx (τ 9 f) (τ 9 e) < σ 2 9 ∧ U (am_mx (τ 9 f) (τ 9 e)).toNat = am_mx (τ 9 f) (τ 9 e) := by
    rcases hor with ⟨o1, o2⟩ | ⟨o1, o2⟩ <;> rw [o2] <;> assumption
  have hrr : mx_rn (am_mn (τ 9 f) (τ 9 e)) (am_mx (τ 9 f) (τ 9 e)) (mx_q U (σ 9 f)) = mx_rn (am_mn (τ 9 f) (τ 9 e)) (am_mx (τ 9 f) (τ 9 e)) (mx_q U (σ 9 e)) := by
    rw [mx_q_nn s1.1, mx_q_nn s2.1, ← z1, ← z2]
    unfold mx_rn
    rcases hor with ⟨o1, o2⟩ | ⟨o1, o2⟩ <;> rw [o1, o2]
    · rw [if_pos rfl]; split <;> rfl
    · rw [if_pos rfl]; split
      · rfl
      · rfl
  generalize am_mn (τ 9 f) (τ 9 e) = lo at *
  generalize am_mx (τ 9 f) (τ 9 e) = hi at *
  have gone' : ∀ j, τ' 9 j = -1 ↔ (τ 9 j = -1 ∨ j = e) := by
    intro j
    rw [d4]
    unfold mx_rw
    have up : mx_up (τ 9) e (-1) j = -1 ↔ (τ 9 j = -1 ∨ j = e) := by
      unfold mx_up
      split
      · rename_i q; simp [q]
      · rename_i q; simp [q]
    split
    · rw [mx_rn_m1 hlo.1 hhi.1]; exact up
    · exact up
  refine ⟨⟨mx_fr_tr u1 d1, fun i hi' => ?_, mx_J_link u3 hlo.1 hle hhi.2.1 hlo.2.2 hhi.2.2 hQ, congrArg (mx_rn lo hi) u4, ?_, fun j hj hn => ?_, fun j hj hn => ?_, hMb⟩, ?_⟩
  · rw [d5, mx_rw_in hi', u2 i hi']
  · have := mx_G_drop (lo := lo) (hi := hi) u5 hhi.1 hfe n2 hl hrr
    have e1 : (fun j => τ' 9 j = -1) = (fun j => (fun e => τ 9 e = -1) j ∨ j = e) := funext fun j => propext (gone' j)
    rw [e1]
    exact this
  · have hn2 : ¬ (τ 9 j = -1 ∨ j = e) := fun q => hn ((gone' j).mpr q)
    obtain ⟨w1, w2, w3, w4⟩ := u6 j hj fun q => hn2 (Or.inl q)
    have hne : j ≠ e := fun q => hn2 (Or.inr q)
    refine ⟨w1, ?_, ?_, ?_⟩
    · rw [d2, mx_rw_in hj, mx_up_ne hne, w2, mx_q_rn hhi.1]
    · rw [d3, mx_rw_in hj, mx_up_ne hne, w3, mx_q_rn hhi.1]
    · rw [d4, mx_rw_in hj, mx_up_ne hne, w4, mx_q_rn hhi.1]
  · rcases (gone' j).mp hn with q | q
    · obtain ⟨w1, w2⟩ := u7 j hj q
      by_cases r : j = e
      · subst r; exact absurd q h1
      · constructor
        · rw [d2, mx_rw_in hj, mx_up_ne r, w1, mx_rn_ne (by omega)]
        · rw [d3, mx_rw_in hj, mx_up_ne r, w2, mx_rn_ne (by omega)]
    · subst q
      constructor
      · rw [d2, mx_rw_in hj, mx_up_at, mx_rn_ne (by omega)]
      · rw [d3, mx_rw_in hj, mx_up_at, mx_rn_ne (by omega)]
  · refine mx_ct_lt (e := e) (fun j hj hq => ?_) (by omega) (decide_eq_true h1) (decide_eq_false (not_not_intro ((gone' e).mpr (Or.inr rfl))))
    have hq := of_decide_eq_true hq
    exact decide_eq_true fun q => hq ((gone' j).mpr (Or.inl q))
theorem me_unify_14_s (d n : Nat) (hS : mx_sh (σ 2 3) (σ 2 9) (σ 5) (σ 7) (σ 8) (σ 9) (σ 10)) (h9 : 0 ≤ σ 2 9) (hg : σ 2 9 ≤ 64) (h3 : 0 ≤ σ 2 3) (hm : σ 2 3 ≤ 64) : ∀ (t i : Nat) (τ : am_M) (U : Nat → Int), i + t = 64 → mx_un σ τ a b U → mx_ct (fun j => decide (τ 9 j ≠ -1)) (σ 2 3).toNat ≤ t →
    ∃ (τ' : am_M) (U' : Nat → Int), me_unify_14 (d + 3) i τ n = some (0, am_wr τ' 2 17 (am_w (τ' 2 17 + 1)), n) ∧ mx_un σ τ' a b U' ∧ mx_F (σ 2 3) (σ 5) (σ 6) (σ 7) (σ 8) U' (fun e => τ' 9 e = -1) := by
  intro t
  induction t with
  | zero =>
    intro i τ U hi hu hc
    refine ⟨τ, U, by rw [me_unify_14_e, if_neg (by omega)]; rfl, hu, fun e f h1 h2 h4 h5 => ?_⟩
    have := mx_ct_zero (Nat.le_zero.mp hc) e (by omega)
    exact absurd (of_decide_eq_false this) (by simpa using h4)
  | succ t ih =>
    intro i τ U hi hu hc
    have c2 : τ 2 = σ 2 := hu.1 2 (by decide)
    have hH : ∀ e : Nat, (e : Int) < τ 2 3 → τ 9 e ≠ -1 → 0 ≤ τ 9 e ∧ τ 9 e < 64 := by
      intro e he hn
      rw [c2] at he
      obtain ⟨w1, -, -, w4⟩ := hu.2.2.2.2.2.1 e he hn
      obtain ⟨s1, -, -⟩ := hS.1 e he w1
      obtain ⟨r1, r2, -⟩ := hu.2.2.1.1 (σ 9 e).toNat (by omega)
      rw [mx_q_nn s1.1] at w4
      rw [w4]
      exact ⟨r1, by omega⟩
    rw [me_unify_14_e, if_pos (by omega)]
    rcases me_drop_s d n τ (by rw [c2]; exact h3) (by rw [c2]; exact hm) (by rw [c2]; exact hg) (by rw [c2]; exact h9) hH with ⟨e, f, τ', a1, a2, a3, a4, a5, a6, a7⟩ | ⟨a1, a2⟩
    · rw [c2] at a2
      obtain ⟨b1, b2⟩ := mx_un_drop hS hg hm hu a1 a2 a3 a4 a5 a7
      rw [a6, Option.bind_some]
      dsimp only
      rw [if_neg (by decide), mx_w_id (by omega) (by omega)]
      exact ih (i + 1) τ' _ (by omega) b1 (by omega)
    · rw [a1, Option.bind_some]
      dsimp only
      rw [if_pos rfl]
      refine ⟨τ, U, rfl, hu, fun e f h1 h2 h4 h5 hl => ?_⟩
      exact a2 f e h1 (by rw [c2]; exact h2) h4 h5 ((mx_un_ak hu h2 (by omega) h5 h4).mpr hl)
/-- two groups told to be the same -/
theorem me_unify_s (d n : Nat) (hS : mx_sh (σ 2 3) (σ 2 9) (σ 5) (σ 7) (σ 8) (σ 9) (σ 10)) (h9 : 0 ≤ σ 2 9) (hg : σ 2 9 ≤ 64) (h3 : 0 ≤ σ 2 3) (hm : σ 2 3 ≤ 64) (ha : 0 ≤ a ∧ a < σ 2 9 ∧ σ 10 a.toNat = a) (hb : 0 ≤ b ∧ b < σ 2 9 ∧ σ 10 b.toNat = b)
    (hM : mx_Mb (σ 2 3) (σ 2 9) (σ 9) (σ 12)) (hA : ∀ e f : Nat, e < f → (f : Int) < σ 2 3 → σ 9 e ≠ -1 → σ 9 f ≠ -1 → ¬ mx_ak σ e f) (hgone : ∀ e : Nat, (e : Int) < σ 2 3 → σ 9 e = -1 → σ 7 e = -1 ∧ σ 8 e = -1) :
    ∃ (τ : am_M) (U : Nat → Int) (v : Int), me_unify (d + 4) a b σ n = some (0, am_wr τ 2 17 v, n) ∧ (v = σ 2 17 ∧ a = b ∧ τ = σ ∨ v = am_w (σ 2 17 + 1)) ∧ mx_un σ τ a b U ∧ mx_F (σ 2 3) (σ 5) (σ 6) (σ 7) (σ 8) U (fun e => τ 9 e = -1) := by
  have qT : ∀ v : Int, v = -1 ∨ (0 ≤ v ∧ v < σ 2 9 ∧ σ 10 v.toNat = v) → mx_q (σ 10) v = v := by
    intro v hv
    rcases hv with hv | hv
    · exact mx_q_neg (by omega)
    · rw [mx_q_nn hv.1]; exact hv.2.2
  by_cases hab : a = b
  · subst hab
    refine ⟨σ, σ 10, σ 2 17, by rw [me_unify_e, if_pos rfl, mx_wr_same], Or.inl ⟨rfl, rfl, rfl⟩, ⟨mx_fr_rf, fun i _ => rfl, mx_J_start hS, rfl, ⟨fun e _ h => h, fun e _ h1 h2 => absurd h2 h1⟩, fun e he hn => ?_, hgone, hM⟩, fun e f h1 h2 h4 h5 hl => ?_⟩
    · obtain ⟨s1, s2, s3⟩ := hS.1 e he hn
      exact ⟨hn, (qT _ s2).symm, (qT _ s3).symm, (qT _ (Or.inr s1)).symm⟩
    · obtain ⟨-, s2, s3⟩ := hS.1 e (by omega) h4
      obtain ⟨-, t2, t3⟩ := hS.1 f h2 h5
      refine hA e f h1 h2 h4 h5 ⟨hl.1, hl.2.1, ?_, ?_⟩
      · have := hl.2.2.1; rwa [qT _ s2, qT _ t2] at this
      · have := hl.2.2.2; rwa [qT _ s3, qT _ t3] at this
  · obtain ⟨τ, p1, p2, p3, p4, p5, p6, p7⟩ := me_mergePair_s (d + 2) a b σ n hm h3 hg h9 ⟨ha.1, by omega⟩ ⟨hb.1, by omega⟩
    have hor := mx_mn_or a b
    have hle := mx_mn_le a b
    have hlo : 0 ≤ am_mn a b ∧ am_mn a b < σ 2 9 ∧ σ 10 (am_mn a b).toNat = am_mn a b := by
      rcases hor with ⟨o1, o2⟩ | ⟨o1, o2⟩ <;> rw [o1] <;> assumption
    have hhi : 0 ≤ am_mx a b ∧ am_mx a b < σ 2 9 ∧ σ 10 (am_mx a b).toNat = am_mx a b := by
      rcases hor with ⟨o1, o2⟩ | ⟨o1, o2⟩ <;> rw [o2] <;> assumption
    have hMb := mx_Mb_ml hM hg ⟨ha.1, ha.2.1⟩ ⟨hb.1, hb.2.1⟩
    rw [← p5, ← p7] at hMb
    have hQ : ∀ Q, mx_clo (σ 2 3) (σ 2 9) (σ 5) (σ 6) (σ 7) (σ 8) (σ 9) (σ 10) a b Q → Q (am_mn a b).toNat = Q (am_mx a b).toNat := by
      intro Q hQ
      rcases hor with ⟨o1, o2⟩ | ⟨o1, o2⟩
      · rw [o1, o2]; exact hQ.2.1
      · rw [o1, o2]; exact hQ.2.1.symm
    have hrr : mx_rn (am_mn a b) (am_mx a b) a = mx_rn (am_mn a b) (am_mx a b) b := by
      unfold mx_rn
      rcases hor with ⟨o1, o2⟩ | ⟨o1, o2⟩ <;> rw [o1, o2]
      · rw [if_pos rfl]; split <;> rfl
      · rw [if_pos rfl]; split <;> rfl
    generalize am_mn a b = lo at *
    generalize am_mx a b = hi at *
    have gone' : ∀ j, τ 9 j = -1 ↔ σ 9 j = -1 := by
      intro j
      rw [p5]
      unfold mx_rw
      split
      · exact mx_rn_m1 hlo.1 hhi.1
      · exact Iff.rfl
    have hu : mx_un σ τ a b (fun i => mx_rn lo hi (σ 10 i)) := by
      refine ⟨p2, fun i hi' => by rw [p6, mx_rw_in hi'], mx_J_link (mx_J_start hS) hlo.1 hle hhi.2.1 hlo.2.2 hhi.2.2 hQ, ?_, ⟨fun e _ h => (gone' e).mpr h, fun e _ h1 h2 => absurd ((gone' e).mp h2) h1⟩, fun e he hn => ?_, fun e he hn => ?_, hMb⟩
      · show mx_rn lo hi (σ 10 a.toNat) = mx_rn lo hi (σ 10 b.toNat)
        rw [ha.2.2, hb.2.2]; exact hrr
      · have hn2 : σ 9 e ≠ -1 := fun q => hn ((gone' e).mpr q)
        obtain ⟨s1, s2, s3⟩ := hS.1 e he hn2
        refine ⟨hn2, ?_, ?_, ?_⟩
        · rw [p3, mx_rw_in he, mx_q_rn hhi.1, qT _ s2]
        · rw [p4, mx_rw_in he, mx_q_rn hhi.1, qT _ s3]
        · rw [p5, mx_rw_in he, mx_q_rn hhi.1, qT _ (Or.inr s1)]
      · obtain ⟨w1, w2⟩ := hgone e he ((gone' e).mp hn)
        constructor
        · rw [p3, mx_rw_in he, w1, mx_rn_ne (by omega)]
        · rw [p4, mx_rw_in he, w2, mx_rn_ne (by omega)]
    obtain ⟨τ', U', q1, q2, q3⟩ := me_unify_14_s (a := a) (b := b) d n hS h9 hg h3 hm 64 0 τ _ rfl hu (Nat.le_trans (mx_ct_le _ _) (by omega))
    refine ⟨τ', U', _, by rw [me_unify_e, if_neg hab, p1, Option.bind_some]; exact q1, Or.inr (by rw [q2.1 2 (by decide)]), q2, q3⟩
end
