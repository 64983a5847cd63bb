/-! the reference: two groups told to be the same -/
theorem mx_R_cong {m g : Int} {K P X Y H T K' P' X' Y' H' T' : Nat → Int} {σ : am_M} (h : mx_R m g K P X Y H T σ) (h1 : ∀ e : Nat, (e : Int) < m → K' e = K e ∧ P' e = P e ∧ H' e = H e ∧ (H e ≠ -1 → X' e = X e ∧ Y' e = Y e)) (h2 : ∀ i : Nat, (i : Int) < g → T' i = T i) : mx_R m g K' P' X' Y' H' T' σ := by
  obtain ⟨hRe, hRi, q1, q2, q3, q4, q5⟩ := h
  refine ⟨fun e he => ?_, fun i hi => ?_, q1, q2, q3, q4, q5⟩
  · obtain ⟨a1, a2, a3, a4⟩ := hRe e he
    obtain ⟨b1, b2, b3, b4⟩ := h1 e he
    unfold mx_re
    rw [b1, b2, b3]
    refine ⟨a1, a2, a3, fun hH => ?_⟩
    obtain ⟨⟨c1, c2, c3⟩, c4, c5, c6, c7⟩ := a4 hH
    obtain ⟨b5, b6⟩ := b4 hH
    rw [b5, b6]
    refine ⟨⟨c1, c2, by rw [h2 _ (by omega)]; exact c3⟩, fun hk => ?_, c5, fun hk => ?_, c7⟩
    · obtain ⟨r1, r2, r3⟩ := c4 hk
      exact ⟨r1, r2, by rw [h2 _ (by omega)]; exact r3⟩
    · obtain ⟨r1, r2, r3⟩ := c6 hk
      exact ⟨r1, r2, by rw [h2 _ (by omega)]; exact r3⟩
  · obtain ⟨a1, a2, a3, a4⟩ := hRi i hi
    exact ⟨a1, a2, fun q => by rw [h2 i hi]; exact a3 q, by rw [h2 i hi, h2 _ (by omega)]; exact a4⟩
theorem mx_Ri_link {g : Int} {U into : Nat → Int} (h : mx_Ri g U into) {lo hi : Int} (h0 : 0 ≤ lo) (h1 : lo ≤ hi) (h2 : hi < g) (hl : U lo.toNat = lo) (hh : U hi.toNat = hi) : mx_Ri g (fun i => mx_rn lo hi (U i)) (mx_up into hi.toNat lo) := by
  intro i hi'
  obtain ⟨a1, a2, a3, a4⟩ := h i hi'
  by_cases q : i = hi.toNat
  · subst q
    rw [mx_up_at]
    have e1 : mx_rn lo hi (U lo.toNat) = lo := by
      rw [hl]
      by_cases r : lo = hi
      · rw [r]; exact mx_rn_same
      · exact mx_rn_ne r
    refine ⟨h0, by omega, fun r => ?_, ?_⟩
    · show mx_rn lo hi (U hi.toNat) = _
      rw [hh, mx_rn_hi]; exact r
    · show mx_rn lo hi (U lo.toNat) = mx_rn lo hi (U hi.toNat)
      rw [e1, hh, mx_rn_hi]
  · rw [mx_up_ne q]
    refine ⟨a1, a2, fun r => ?_, ?_⟩
    · show mx_rn lo hi (U i) = _
      rw [a3 r, mx_rn_ne (by omega)]
    · show mx_rn lo hi (U (into i).toNat) = mx_rn lo hi (U i)
      rw [a4]
section
variable {m g : Int} {K P X Y H T : Nat → Int} {σ : am_M} {a b : Int}
/-- a stage of the reference's merging -/
def mx_mg (m g : Int) (K P X Y H T : Nat → Int) (σ : am_M) (a b : Int) (τ : am_M) (U : Nat → Int) : Prop :=
  mx_Fr [94, 95] σ τ ∧ mx_Ri g U (τ 94) ∧ mx_J m g K P X Y H T a b U ∧ U a.toNat = U b.toNat ∧ mx_G m K P X Y H U (fun e => τ 95 e ≠ 0) ∧ ∀ e : Nat, (e : Int) < m → τ 95 e = 0 ∨ τ 95 e = 1
theorem mx_mg_R (hR : mx_R m g K P X Y H T σ) (hS : mx_sh m g K X Y H T) {τ : am_M} {U : Nat → Int} (hu : mx_mg m g K P X Y H T σ a b τ U) :
    mx_R m g K P (fun e => mx_q U (X e)) (fun e => mx_q U (Y e)) (fun e => if τ 95 e = 0 then mx_q U (H e) else -1) U τ := by
  obtain ⟨hRe, hRi, q1, q2, q3, q4, q5⟩ := hR
  obtain ⟨u1, u2, u3, u4, u5, u6⟩ := hu
  refine ⟨fun e he => ?_, u2, by rw [u1 82 (by decide)]; exact q1, by rw [u1 82 (by decide)]; exact q2, q3, q4, q5⟩
  obtain ⟨a1, a2, a3, a4⟩ := hRe e he
  unfold mx_re
  rw [u1 89 (by decide), u1 90 (by decide), u1 91 (by decide), u1 92 (by decide), u1 93 (by decide)]
  refine ⟨a1, a2, ?_, fun hH => ?_⟩
  · by_cases r : τ 95 e = 0
    · have hn : H e ≠ -1 := fun q => u5.1 e he q r
      obtain ⟨s1, -, -⟩ := hS.1 e he hn
      have := (u3.1 (H e).toNat (by omega)).1
      simp only [if_pos r]
      rw [mx_q_nn s1.1, if_neg (by omega), r]
    · simp only [if_neg r]
      rw [if_pos trivial]
      rcases u6 e he with q | q
      · exact absurd q r
      · exact q
  · by_cases r : τ 95 e = 0
    · have hn : H e ≠ -1 := fun q => u5.1 e he q r
      simp only [if_pos r]
      obtain ⟨s1, s2, s3⟩ := hS.1 e he hn
      obtain ⟨⟨c1, c2, c3⟩, c4, c5, c6, c7⟩ := a4 hn
      refine ⟨⟨c1, c2, ?_⟩, fun hk => ?_, fun hk => ?_, fun hk => ?_, fun hk => ?_⟩
      · rw [mx_q_nn s1.1, ← c3, u3.2.1 _ (by omega)]
      · obtain ⟨r1, r2, r3⟩ := c4 hk
        refine ⟨r1, r2, ?_⟩
        have := (hS.2 (σ 91 e).toNat (by omega)).1
        rw [mx_q_nn (by omega), ← r3, u3.2.1 _ (by omega)]
      · rw [c5 hk, mx_q_neg (by decide)]
      · obtain ⟨r1, r2, r3⟩ := c6 hk
        refine ⟨r1, r2, ?_⟩
        have := (hS.2 (σ 92 e).toNat (by omega)).1
        rw [mx_q_nn (by omega), ← r3, u3.2.1 _ (by omega)]
      · rw [c7 hk, mx_q_neg (by decide)]
    · simp only [if_neg r] at hH
      exact absurd rfl hH
theorem mo_merges_44_s (hR : mx_R m g K P X Y H T σ) (hS : mx_sh m g K X Y H T) (d n : Nat) : ∀ (t f : Nat) (v : Int) (τ : am_M) (U : Nat → Int), (f : Int) + t = m → mx_mg m g K P X Y H T σ a b τ U →
    ∃ (τ' : am_M) (U' : Nat → Int) (v' : Int), mo_merges_44 (d + 2) v f τ n = mo_merges_33 (d + 2) v' τ' n ∧ mx_mg m g K P X Y H T σ a b τ' U' ∧
      ((τ' = τ ∧ U' = U ∧ v' = v ∧ ∀ e e' : Nat, e' < e → f ≤ e → (e : Int) < m → τ 95 e = 0 → τ 95 e' = 0 → ¬ mx_lk K P X Y U e' e) ∨ (v' = 1 ∧ mx_ct (fun j => decide (τ' 95 j = 0)) m.toNat < mx_ct (fun j => decide (τ 95 j = 0)) m.toNat)) := by
  intro t
  induction t with
  | zero =>
    intro f v τ U hf hu
    have c := (mx_mg_R hR hS hu).2.2.1
    exact ⟨τ, U, v, by rw [mo_merges_44_e, if_neg (by omega)], hu, Or.inl ⟨rfl, rfl, rfl, fun e e' h1 h2 h3 => by omega⟩⟩
  | succ t ih =>
    intro f v τ U hf hu
    have hR' := mx_mg_R hR hS hu
    have c := hR'.2.2.1
    have hm := hR.2.2.2.2.2.2
    have hg : g ≤ m := hR.2.2.2.2.2.1
    have hf' : (f : Int) < m := by omega
    have hw : am_w ((f : Int) + 1) = ((f + 1 : Nat) : Int) := by rw [mx_w_id (by omega) (by omega)]; rfl
    rw [mo_merges_44_e, if_pos (by omega)]
    simp (disch := first | omega | decide) only [ix_95, Int.toNat_natCast]
    by_cases r : τ 95 f = 0
    · rw [if_pos r]
      obtain ⟨a1, a2, a3, a4⟩ := hR'.1 f hf'
      have hn : H f ≠ -1 := fun q => hu.2.2.2.2.1.1 f hf' q r
      have hH' : (if τ 95 f = 0 then mx_q U (H f) else -1) ≠ -1 := by
        rw [if_pos r]
        obtain ⟨s1, -, -⟩ := hS.1 f hf' hn
        have := (hu.2.2.1.1 (H f).toNat (by omega)).1
        rw [mx_q_nn s1.1]; omega
      obtain ⟨c3, c4, c5, c6, c7⟩ := a4 hH'
      simp (disch := first | omega | decide) only [ix_89, ix_90, ix_91, ix_92]
      rw [mo_alike_s hR' d n (τ 89 f) (τ 90 f) (τ 91 f) (τ 92 f) (fun hk => by rw [a1] at hk; exact ⟨(c4 hk).1, (c4 hk).2.1⟩) (fun hk => by rw [a1] at hk; exact ⟨(c6 hk).1, (c6 hk).2.1⟩), Option.bind_some, a1, a2]
      have ex : mx_xk (K f) (τ 91 f) U = mx_q U (X f) := by
        unfold mx_xk
        by_cases hk : K f = 1
        · rw [if_pos hk]; exact (c5 hk).symm
        · rw [if_neg hk]; exact (c4 hk).2.2
      have ey : mx_yk (K f) (τ 92 f) U = mx_q U (Y f) := by
        unfold mx_yk
        by_cases hk : K f < 5
        · rw [if_pos hk]; exact (c7 hk).symm
        · rw [if_neg hk]; exact (c6 (by omega)).2.2
      rw [ex, ey]
      have self : mx_al K P (fun e => mx_q U (X e)) (fun e => mx_q U (Y e)) (fun e => if τ 95 e = 0 then mx_q U (H e) else -1) (K f) (P f) (mx_q U (X f)) (mx_q U (Y f)) f = true := decide_eq_true ⟨rfl, rfl, rfl, rfl, hH'⟩
      rcases mx_fi_r (mx_al K P (fun e => mx_q U (X e)) (fun e => mx_q U (Y e)) (fun e => if τ 95 e = 0 then mx_q U (H e) else -1) (K f) (P f) (mx_q U (X f)) (mx_q U (Y f))) m (by omega) with ⟨-, h⟩ | ⟨i, h1, h2, h4, h5⟩
      · rw [h f hf'] at self; cases self
      · rw [h1]
        dsimp only
        have hle : i ≤ f := by
          rcases Nat.lt_or_ge f i with r | r
          · rw [h5 f r] at self; cases self
          · exact r
        obtain ⟨k1, k2, k3, k4, k5⟩ := of_decide_eq_true h4
        have k5 : (if τ 95 i = 0 then mx_q U (H i) else -1) ≠ -1 := k5
        have ri : τ 95 i = 0 := by
          by_cases q : τ 95 i = 0
          · exact q
          · rw [if_neg q] at k5; exact absurd rfl k5
        by_cases e : i = f
        · subst e
          rw [if_pos rfl, hw]
          obtain ⟨τ', U', v', p1, p2, p3⟩ := ih (i + 1) v τ U (by omega) hu
          refine ⟨τ', U', v', p1, p2, ?_⟩
          rcases p3 with ⟨e1, e2, e3, e4⟩ | p3
          · refine Or.inl ⟨e1, e2, e3, fun x x' g1 g2 g3 g4 g5 hl => ?_⟩
            by_cases q : x = i
            · subst q
              have gx : (x' : Int) < m := Int.lt_trans (Int.ofNat_lt.mpr g1) g3
              have hnx : H x' ≠ -1 := fun q => hu.2.2.2.2.1.1 x' gx q g5
              have : mx_al K P (fun e => mx_q U (X e)) (fun e => mx_q U (Y e)) (fun e => if τ 95 e = 0 then mx_q U (H e) else -1) (K x) (P x) (mx_q U (X x)) (mx_q U (Y x)) x' = true := decide_eq_true ⟨hl.1, hl.2.1, hl.2.2.1, hl.2.2.2, by
                show (if τ 95 x' = 0 then mx_q U (H x') else -1) ≠ -1
                rw [if_pos g5]
                obtain ⟨s1, -, -⟩ := hS.1 x' gx hnx
                have := (hu.2.2.1.1 (H x').toNat (by have := s1.2.1; have := s1.1; clear ih; omega)).1
                rw [mx_q_nn s1.1]; omega⟩
              rw [h5 x' g1] at this; cases this
            · exact e4 x x' g1 (by omega) g3 g4 g5 hl
          · exact Or.inr p3
        · rw [if_neg (by omega)]
          have hni : H i ≠ -1 := fun q => hu.2.2.2.2.1.1 i (by omega) q ri
          obtain ⟨b1, b2, b3, b4⟩ := hR'.1 i h2
          obtain ⟨d3, -⟩ := b4 k5
          obtain ⟨s1, -, -⟩ := hS.1 f hf' hn
          obtain ⟨t1, -, -⟩ := hS.1 i h2 hni
          obtain ⟨r1, r2, r3⟩ := hu.2.2.1.1 (H f).toNat (by omega)
          obtain ⟨w1, w2, w3⟩ := hu.2.2.1.1 (H i).toNat (by omega)
          have d33 := d3.2.2
          have c33 := c3.2.2
          simp only [if_pos ri, mx_q_nn t1.1] at d33
          simp only [if_pos r, mx_q_nn s1.1] at c33
          dsimp only [am_m]
          rw [Int.toNat_natCast, ix_93 (by omega) (by omega)]
          have e94 : (am_wr τ 95 f (1 % 2)) 94 = τ 94 := by simp (disch := first | omega | decide) only [mx_wr_ne]
          have e93 : (am_wr τ 95 f (1 % 2)) 93 = τ 93 := by simp (disch := first | omega | decide) only [mx_wr_ne]
          rw [e93, mo_root_s (d + 1) _ n (by rw [e94]; exact hR'.2.1) (by omega) _ d3.1 d3.2.1, Option.bind_some]
          dsimp only
          rw [ix_93 (by omega) (by omega), e93, mo_root_s (d + 1) _ n (by rw [e94]; exact hR'.2.1) (by omega) _ c3.1 c3.2.1, Option.bind_some]
          dsimp only
          rw [d33, c33]
          have hor := mx_mn_or (U (H i).toNat) (U (H f).toNat)
          have hle2 := mx_mn_le (U (H i).toNat) (U (H f).toNat)
          have hl : mx_lk K P X Y U i f := ⟨k1, k2, k3, k4⟩
          have hQ : ∀ Q, mx_clo m g K P X Y H T a b Q → Q (am_mn (U (H i).toNat) (U (H f).toNat)).toNat = Q (am_mx (U (H i).toNat) (U (H f).toNat)).toNat := by
            intro Q hQ
            have := mx_clo_homes hS hu.2.2.1 h2 hf' hni hn hl Q hQ
            rw [mx_q_nn s1.1, mx_q_nn t1.1] at this
            rcases hor with ⟨o1, o2⟩ | ⟨o1, o2⟩
            · rw [o1, o2]; exact this
            · rw [o1, o2]; exact this.symm
          have hlo : 0 ≤ am_mn (U (H i).toNat) (U (H f).toNat) ∧ am_mn (U (H i).toNat) (U (H f).toNat) < g ∧ U (am_mn (U (H i).toNat) (U (H f).toNat)).toNat = am_mn (U (H i).toNat) (U (H f).toNat) := by
            rcases hor with ⟨o1, o2⟩ | ⟨o1, o2⟩ <;> rw [o1]
            · exact ⟨w1, by omega, w3⟩
            · exact ⟨r1, by omega, r3⟩
          have hhi : 0 ≤ am_mx (U (H i).toNat) (U (H f).toNat) ∧ am_mx (U (H i).toNat) (U (H f).toNat) < g ∧ U (am_mx (U (H i).toNat) (U (H f).toNat)).toNat = am_mx (U (H i).toNat) (U (H f).toNat) := by
            rcases hor with ⟨o1, o2⟩ | ⟨o1, o2⟩ <;> rw [o2]
            · exact ⟨r1, by omega, r3⟩
            · exact ⟨w1, by omega, w3⟩
          have hrr : mx_rn (am_mn (U (H i).toNat) (U (H f).toNat)) (am_mx (U (H i).toNat) (U (H f).toNat)) (mx_q U (H i)) = mx_rn (am_mn (U (H i).toNat) (U (H f).toNat)) (am_mx (U (H i).toNat) (U (H f).toNat)) (mx_q U (H f)) := by
            rw [mx_q_nn s1.1, mx_q_nn t1.1]
            unfold mx_rn
            rcases hor with ⟨o1, o2⟩ | ⟨o1, o2⟩ <;> rw [o1, o2]
            · rw [if_pos rfl]; split <;> rfl
            · rw [if_pos rfl]; split <;> rfl
          generalize am_mn (U (H i).toNat) (U (H f).toNat) = lo at *
          generalize am_mx (U (H i).toNat) (U (H f).toNat) = hi at *
          rw [ix_94 hhi.1 (by omega), hw]
          obtain ⟨u1, u2, u3, u4, u5, u6⟩ := hu
          have c95 : ∀ j, (am_wr (am_wr τ 95 f (1 % 2)) 94 hi.toNat lo) 95 j = if j = f then 1 else τ 95 j := by
            intro j
            rw [mx_wr_ne (by decide), mx_wr_if]
            rfl
          have hu' : mx_mg m g K P X Y H T σ a b (am_wr (am_wr τ 95 f (1 % 2)) 94 hi.toNat lo) (fun i => mx_rn lo hi (U i)) := by
            refine ⟨mx_fr_wr (mx_fr_wr u1 (by decide)) (by decide), ?_, mx_J_link u3 hlo.1 hle2 hhi.2.1 hlo.2.2 hhi.2.2 hQ, congrArg (mx_rn lo hi) u4, ?_, fun j hj => ?_⟩
            · rw [mx_wr_up, e94]
              exact mx_Ri_link u2 hlo.1 hle2 hhi.2.1 hlo.2.2 hhi.2.2
            · have := mx_G_drop (lo := lo) (hi := hi) u5 hhi.1 (by omega : i < f) hni hl hrr
              have e1 : (fun j => (am_wr (am_wr τ 95 f (1 % 2)) 94 hi.toNat lo) 95 j ≠ 0) = (fun j => (fun e => τ 95 e ≠ 0) j ∨ j = f) := funext fun j => propext (by
                rw [c95]
                by_cases q : j = f
                · simp [q]
                · simp [q])
              rw [e1]
              exact this
            · rw [c95]
              by_cases q : j = f
              · rw [if_pos q]; exact Or.inr rfl
              · rw [if_neg q]; exact u6 j hj
          obtain ⟨τ', U', v', p1, p2, p3⟩ := ih (f + 1) 1 _ _ (by omega) hu'
          refine ⟨τ', U', v', p1, p2, Or.inr ?_⟩
          have hlt : mx_ct (fun j => decide ((am_wr (am_wr τ 95 f (1 % 2)) 94 hi.toNat lo) 95 j = 0)) m.toNat < mx_ct (fun j => decide (τ 95 j = 0)) m.toNat := by
            refine mx_ct_lt (e := f) (fun j hj hq => ?_) (by omega) (decide_eq_true r) (decide_eq_false (by rw [c95, if_pos rfl]; decide))
            have hq := of_decide_eq_true hq
            rw [c95] at hq
            by_cases q : j = f
            · rw [if_pos q] at hq; cases hq
            · rw [if_neg q] at hq; exact decide_eq_true hq
          rcases p3 with ⟨e1, e2, e3, e4⟩ | ⟨p3, p4⟩
          · exact ⟨e3, by rw [e1]; exact hlt⟩
          · exact ⟨p3, Nat.lt_trans p4 hlt⟩
    · rw [if_neg r, hw]
      obtain ⟨τ', U', v', p1, p2, p3⟩ := ih (f + 1) v τ U (by omega) hu
      refine ⟨τ', U', v', p1, p2, ?_⟩
      rcases p3 with ⟨e1, e2, e3, e4⟩ | p3
      · refine Or.inl ⟨e1, e2, e3, fun x x' g1 g2 g3 g4 g5 hl => ?_⟩
        by_cases q : x = f
        · subst q; exact absurd g4 r
        · exact e4 x x' g1 (by omega) g3 g4 g5 hl
      · exact Or.inr p3
theorem mo_merges_33_s (hR : mx_R m g K P X Y H T σ) (hS : mx_sh m g K X Y H T) (d n : Nat) : ∀ (c : Nat) (τ : am_M) (U : Nat → Int), mx_ct (fun j => decide (τ 95 j = 0)) m.toNat ≤ c → mx_mg m g K P X Y H T σ a b τ U →
    ∃ (τ' : am_M) (U' : Nat → Int), mo_merges_33 (d + 2) 1 τ n = some (0, τ', n) ∧ mx_mg m g K P X Y H T σ a b τ' U' ∧ mx_F m K P X Y U' (fun e => τ' 95 e ≠ 0) := by
  intro c
  induction c using Nat.strongRecOn with
  | _ c ih =>
    intro τ U hc hu
    have h0 : 0 ≤ m := by have := hR.2.2.2.2; omega
    obtain ⟨τ', U', v', p1, p2, p3⟩ := mo_merges_44_s hR hS d n m.toNat 0 0 τ U (by omega) hu
    rw [mo_merges_33_e, if_neg (by decide)]
    have p1 : mo_merges_44 (d + 2) 0 0 τ n = mo_merges_33 (d + 2) v' τ' n := p1
    rw [p1]
    rcases p3 with ⟨e1, e2, e3, e4⟩ | ⟨e1, e2⟩
    · refine ⟨τ', U', by rw [e3, mo_merges_33_e, if_pos rfl], p2, fun e f h1 h2 h3 h4 hl => ?_⟩
      rw [e1] at h3 h4
      rw [e2] at hl
      exact e4 f e h1 (Nat.zero_le _) h2 (by simpa using h4) (by simpa using h3) hl
    · rw [e1]
      exact ih _ (Nat.lt_of_lt_of_le e2 hc) τ' U' (Nat.le_refl _) p2
theorem mo_merges_s (hR : mx_R m g K P X Y H T σ) (hS : mx_sh m g K X Y H T) (d n : Nat) (x y : Int) (hx : 0 ≤ x ∧ x < g) (hy : 0 ≤ y ∧ y < g) (ha : T x.toNat = a) (hb : T y.toNat = b) :
    ∃ (τ : am_M) (U : Nat → Int), mo_merges (d + 3) x y σ n = some (0, τ, n) ∧ mx_mg m g K P X Y H T σ a b τ U ∧ mx_F m K P X Y U (fun e => τ 95 e ≠ 0) := by
  have hm := hR.2.2.2.2.2.2
  have hg : g ≤ m := hR.2.2.2.2.2.1
  obtain ⟨r1, r2, r3⟩ := hS.2 x.toNat (by omega)
  obtain ⟨w1, w2, w3⟩ := hS.2 y.toNat (by omega)
  rw [ha] at r1 r2 r3
  rw [hb] at w1 w2 w3
  rw [mo_merges_e, mo_root_r hR _ n _ hx.1 hx.2, Option.bind_some]
  dsimp only
  rw [mo_root_r hR _ n _ hy.1 hy.2, Option.bind_some]
  dsimp only [am_m]
  rw [ha, hb]
  have hor := mx_mn_or a b
  have hle := mx_mn_le a b
  have hlo : 0 ≤ am_mn a b ∧ am_mn a b < g ∧ T (am_mn a b).toNat = am_mn a b := by
    rcases hor with ⟨o1, o2⟩ | ⟨o1, o2⟩ <;> rw [o1]
    · exact ⟨r1, by omega, r3⟩
    · exact ⟨w1, by omega, w3⟩
  have hhi : 0 ≤ am_mx a b ∧ am_mx a b < g ∧ T (am_mx a b).toNat = am_mx a b := by
    rcases hor with ⟨o1, o2⟩ | ⟨o1, o2⟩ <;> rw [o2]
    · exact ⟨w1, by omega, w3⟩
    · exact ⟨r1, by omega, r3⟩
  have hQ : ∀ Q, mx_clo m g K P X Y H T a b Q → Q (am_mn a b).toNat = Q (am_mx a b).toNat := by
    intro Q hQ
    rcases hor with ⟨o1, o2⟩ | ⟨o1, o2⟩
    · rw [o1, o2]; exact hQ.2.1
    · rw [o1, o2]; exact hQ.2.1.symm
  have hrr : mx_rn (am_mn a b) (am_mx a b) a = mx_rn (am_mn a b) (am_mx a b) b := by
    unfold mx_rn
    rcases hor with ⟨o1, o2⟩ | ⟨o1, o2⟩ <;> rw [o1, o2]
    · rw [if_pos rfl]; split <;> rfl
    · rw [if_pos rfl]; split <;> rfl
  generalize am_mn a b = lo at *
  generalize am_mx a b = hi at *
  rw [ix_94 hhi.1 (by omega)]
  have hR0 := hR
  obtain ⟨hRe, hRi, -⟩ := hR
  refine mo_merges_33_s hR0 hS d n _ (am_wr σ 94 hi.toNat lo) (fun i => mx_rn lo hi (T i)) (Nat.le_refl _) ⟨mx_fr_wr mx_fr_rf (by decide), ?_, mx_J_link (mx_J_start hS) hlo.1 hle hhi.2.1 hlo.2.2 hhi.2.2 hQ, ?_, ⟨fun e he hH => ?_, fun e he hH hq => ?_⟩, fun e he => ?_⟩
  · rw [mx_wr_up]; exact mx_Ri_link hRi hlo.1 hle hhi.2.1 hlo.2.2 hhi.2.2
  · show mx_rn lo hi (T a.toNat) = mx_rn lo hi (T b.toNat)
    rw [r3, w3]; exact hrr
  · show (am_wr σ 94 hi.toNat lo) 95 e ≠ 0
    rw [mx_wr_ne (by decide), (hRe e he).2.2.1, if_pos hH]; decide
  · have hq : (am_wr σ 94 hi.toNat lo) 95 e ≠ 0 := hq
    rw [mx_wr_ne (by decide), (hRe e he).2.2.1, if_neg hH] at hq; exact absurd rfl hq
  · rw [mx_wr_ne (by decide), (hRe e he).2.2.1]
    split
    · exact Or.inr rfl
    · exact Or.inl rfl
end
