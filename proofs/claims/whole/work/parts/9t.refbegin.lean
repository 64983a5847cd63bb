section
variable {n : Nat} {σ μ τ τb : am_M} {T : Nat → Int}
theorem mo_reads_29_s (d : Nat) (a v : Int) (τ : am_M) : mo_reads_29 d a v τ n = if mx_kb v = 0 then some (-1, am_wr τ 82 6 (τ 82 70), n) else mo_reads_145 d a (mx_kb v) ((2000 + mx_wx (mx_kb v) : Nat) : Int) τ n := by
  have k0 : mo_reads_82 d a 0 τ n = some (-1, am_wr τ 82 6 (τ 82 70), n) := by rw [mo_reads_82_e, if_pos rfl, mx_m]
  have k1 : mo_reads_82 d a 1 τ n = mo_reads_145 d a 1 ((2000 + mx_wx 1 : Nat) : Int) τ n := by rw [mo_reads_82_e, if_neg (by decide), if_pos rfl]; rfl
  have k3 : mo_reads_82 d a 3 τ n = mo_reads_145 d a 3 ((2000 + mx_wx 3 : Nat) : Int) τ n := by rw [mo_reads_82_e, if_neg (by decide), if_neg (by decide), if_pos rfl]; rfl
  have k4 : mo_reads_82 d a 4 τ n = mo_reads_145 d a 4 ((2000 + mx_wx 4 : Nat) : Int) τ n := by rw [mo_reads_82_e, if_neg (by decide), if_neg (by decide), if_neg (by decide), if_pos rfl]; rfl
  have k5 : mo_reads_82 d a 5 τ n = mo_reads_145 d a 5 ((2000 + mx_wx 5 : Nat) : Int) τ n := by rw [mo_reads_82_e, if_neg (by decide), if_neg (by decide), if_neg (by decide), if_neg (by decide), if_pos rfl]; rfl
  have k6 : mo_reads_82 d a 6 τ n = mo_reads_145 d a 6 ((2000 + mx_wx 6 : Nat) : Int) τ n := by rw [mo_reads_82_e, if_neg (by decide), if_neg (by decide), if_neg (by decide), if_neg (by decide), if_neg (by decide)]; rfl
  rw [mo_reads_29_e]
  by_cases h1 : v = 115
  · subst h1; rw [if_pos rfl, if_neg (by decide)]; exact k1
  · by_cases h2 : v = 107
    · subst h2; rw [if_neg (by decide), if_pos rfl, if_neg (by decide)]; exact k3
    · by_cases h3 : v = 116
      · subst h3; rw [if_neg (by decide), if_neg (by decide), if_pos rfl, if_neg (by decide)]; exact k4
      · by_cases h4 : v = 106
        · subst h4; rw [if_neg (by decide), if_neg (by decide), if_neg (by decide), if_pos rfl, if_neg (by decide)]; exact k5
        · by_cases h5 : v = 104
          · subst h5; rw [if_neg (by decide), if_neg (by decide), if_neg (by decide), if_neg (by decide), if_pos rfl, if_neg (by decide)]; exact k6
          · have : mx_kb v = 0 := by unfold mx_kb; rw [if_neg h1, if_neg h2, if_neg h3, if_neg h4, if_neg h5]
            rw [if_pos this, if_neg h1, if_neg h2, if_neg h3, if_neg h4, if_neg h5]
            exact k0
/-- what the reference does behind a digit -/
noncomputable def mx_r173 (e : Nat) (a k o : Int) (τ : am_M) (n : Nat) : Option am_R :=
  if k = 1 then ((mo_told (e + 8) k o 0 0 τ n).bind fun q6 => some (q6.1, q6.2.1, q6.2.2)) else (mo_goes (e + 8) 40 τ n).bind fun q2 => if q2.1 = 0 then (some ((-1), q2.2.1, q2.2.2)) else (mo_reads (e + 8) q2.2.1 q2.2.2).bind fun q3 => if q3.2.1 82 6 = (-1) then (if k < 5 then (mo_reads_266 (e + 8) a k o q3.1 q3.1 q3.2.1 q3.2.2) else (mo_goes (e + 8) 44 q3.2.1 q3.2.2).bind fun q4 => if q4.1 = 0 then (some ((-1), q4.2.1, q4.2.2)) else (mo_reads (e + 8) q4.2.1 q4.2.2).bind fun q5 => if q5.2.1 82 6 = (-1) then (mo_reads_266 (e + 8) a k o q3.1 q5.1 q5.2.1 q5.2.2) else some ((-1), q5.2.1, q5.2.2)) else some ((-1), q3.2.1, q3.2.2)
theorem mo_reads_b {S a : Nat} {tn : Int} (h : mx_rtx τ T S a) (hT : ∀ i, -2147483648 ≤ T i ∧ T i < 2147483648) (ht : τ 82 0 = tn) (ht8 : 0 ≤ tn ∧ tn ≤ 8) (e : Nat) :
    ((mx_bg T tn a).2 = 0 → ∃ τ' : am_M, mo_reads (e + 9) τ n = some (-1, τ', n) ∧ mx_Fq [] [(82, 6), (82, 70)] τ τ' ∧ τ' 82 6 = ((mx_bg T tn a).1 : Nat)) ∧
    ((mx_bg T tn a).2 ≠ 0 → mo_reads (e + 9) τ n = mx_r173 e a (mx_bg T tn a).2 (T ((mx_bg T tn a).1 - 1) - 48) (am_wr τ 82 70 ((mx_bg T tn a).1 : Nat)) n) := by
  have hh := h
  obtain ⟨h1, h2, h3, h4, h5, h6, h7⟩ := h
  have go : mo_reads (e + 9) τ n = if mx_kb (T a) = 0 then some (-1, am_wr τ 82 6 (a : Nat), n) else mo_reads_145 (e + 8) a (mx_kb (T a)) ((2000 + mx_wx (mx_kb (T a)) : Nat) : Int) τ n := by
    rw [mo_reads_e]
    by_cases z : a < S
    · rw [if_pos (by rw [h2, h1]; omega), h2, ix_136 (by omega) (by omega), Int.toNat_natCast, h4 a z, mo_reads_29_s, h2]
    · have := h5 a (by omega)
      rw [if_neg (by rw [h2, h1]; omega), mo_reads_29_s, h2, this]
      rfl
  rw [go]
  unfold mx_bg
  by_cases z : mx_kb (T a) = 0
  · rw [if_pos z, if_pos z]
    exact ⟨fun _ => ⟨_, rfl, mx_fq_wr mx_fq_rf rfl, mx_wr_at⟩, fun q => absurd rfl q⟩
  · rw [if_neg z, if_neg z]
    have w5 := mx_wx_lt (mx_kb (T a))
    have wn := mx_ww_5 _ w5
    have gs := mo_goes2_s (n := n) (T := T) (e + 3) (mx_wx (mx_kb (T a))) S (by omega) (mx_ww (mx_wx (mx_kb (T a)))) [] a τ rfl wn.2 hh
    have le := mx_mtc_le h5 (mx_ww (mx_wx (mx_kb (T a)))) a wn.2 h6
    have dg8 : 0 ≤ mx_dgs tn (mx_kb (T a)) ∧ mx_dgs tn (mx_kb (T a)) ≤ 8 := by
      unfold mx_dgs
      (repeat' split) <;> omega
    have g2 : mo_goes2 (e + 8) ((2000 + mx_wx (mx_kb (T a)) : Nat) : Int) τ n = _ := (mo_goes2_e (e + 7) _ τ n).trans gs
    have st : ∀ (b : Int) (τ1 : am_M), mo_goes2 (e + 8) ((2000 + mx_wx (mx_kb (T a)) : Nat) : Int) τ n = some (b, τ1, n) → τ1 82 0 = tn → mo_reads_145 (e + 8) a (mx_kb (T a)) ((2000 + mx_wx (mx_kb (T a)) : Nat) : Int) τ n = mo_reads_173 (e + 8) a (mx_kb (T a)) (mx_dgs tn (mx_kb (T a))) τ1 n := fun b τ1 q q0 => by
      rw [mo_reads_145_e, q, Option.bind_some]
      dsimp only
      unfold mx_dgs
      rw [q0]
      (repeat' split) <;> rfl
    by_cases y : (mx_mtc T a (mx_ww (mx_wx (mx_kb (T a))))).2 = true
    · rw [if_pos y] at g2
      rw [if_pos y]
      generalize (mx_mtc T a (mx_ww (mx_wx (mx_kb (T a))))).1 = p at *
      have r1 : mx_rtx (am_wr τ 82 70 (p : Nat)) T S p := ⟨by rw [mx_wr_off (by decide)]; exact h1, by rw [mx_wr_at], by rw [mx_wr_off (by decide)]; exact h3, fun i hi => by rw [mx_wr_ne (by decide)]; exact h4 i hi, h5, le, h7⟩
      have ds := mo_digit_s (n := n) (T := T) (e + 7) S p (mx_dgs tn (mx_kb (T a))) dg8 r1 (hT p)
      rw [st _ _ g2 (by rw [mx_wr_off (by decide)]; exact ht), mo_reads_173_e, show mo_digit (e + 8) (mx_dgs tn (mx_kb (T a))) (am_wr τ 82 70 (p : Nat)) n = _ from ds]
      by_cases x : 48 ≤ T p ∧ T p < 48 + mx_dgs tn (mx_kb (T a))
      · rw [if_pos x, if_pos x, Option.bind_some, mx_wr_wr]
        dsimp only
        rw [if_pos (show am_wr τ 82 70 ((p + 1 : Nat) : Int) 82 6 = -1 by rw [mx_wr_off (by decide)]; exact h3), Nat.add_sub_cancel]
        exact ⟨fun q => absurd q z, fun _ => rfl⟩
      · rw [if_neg x, if_neg x, Option.bind_some]
        dsimp only
        rw [if_neg (show ¬ am_wr (am_wr τ 82 70 (p : Nat)) 82 6 (p : Nat) 82 6 = -1 by rw [mx_wr_at]; omega)]
        exact ⟨fun _ => ⟨_, rfl, mx_fq_wr (mx_fq_wr mx_fq_rf rfl) rfl, mx_wr_at⟩, fun q => absurd rfl q⟩
    · rw [if_neg y] at g2
      rw [if_neg y]
      generalize (mx_mtc T a (mx_ww (mx_wx (mx_kb (T a))))).1 = p at *
      have nf : ¬ am_wr (am_wr τ 82 70 (p : Nat)) 82 6 (p : Nat) 82 6 = -1 := by rw [mx_wr_at]; omega
      rw [st _ _ g2 (by rw [mx_wr_off (by decide), mx_wr_off (by decide)]; exact ht), mo_reads_173_e, mo_digit_e, if_neg nf, Option.bind_some]
      dsimp only
      rw [if_neg nf]
      exact ⟨fun _ => ⟨_, rfl, mx_fq_wr (mx_fq_wr mx_fq_rf rfl) rfl, mx_wr_at⟩, fun q => absurd rfl q⟩
/-- one more is told -/
theorem mo_told_j {L : List mx_pt} (hj : mx_vj μ L (mx_tal μ L)) (hr : mx_rl (mx_tal μ L).1 τ) (b1 : (mx_tal μ L).1 2 3 < 143) (b2 : 0 ≤ μ 2 17 ∧ μ 2 17 + L.length < 2000000000) {k o x y cl : Int} (hl : mx_lm (mx_tal μ L).1 k o (mx_gp (mx_tal μ L).2 x) (mx_gp (mx_tal μ L).2 y))
    (hc : cl = mx_cb k o (mx_tc ((mx_tal μ L).1 3) ((mx_tal μ L).1 11) k o (mx_gp (mx_tal μ L).2 x)) (mx_yc ((mx_tal μ L).1 11) (mx_gp (mx_tal μ L).2 y))) {x' y' : Int} (hxi : x = -1 ∨ ∃ i : Nat, x = i ∧ i < L.length) (hyi : y = -1 ∨ ∃ i : Nat, y = i ∧ i < L.length) (hx : k ≠ 1 → x' = mx_gp (mx_tal μ L).2 x) (hy : 5 ≤ k → y' = mx_gp (mx_tal μ L).2 y) (e : Nat) :
    ∃ (g : Int) (τ' : am_M), mo_told (e + 3) k o x' y' τ n = some (g, τ', n) ∧ mx_Fq [89, 90, 91, 92, 93, 94, 95] [(82, 1), (82, 2)] τ τ' ∧ mx_vj μ (L ++ [(k, o, x, y, cl)]) (mx_tal μ (L ++ [(k, o, x, y, cl)])) ∧ mx_rl (mx_tal μ (L ++ [(k, o, x, y, cl)])).1 τ' ∧ (mx_tal μ (L ++ [(k, o, x, y, cl)])).2[L.length]? = some g := by
  have step := mx_vj_step hj hl hc b1 b2 rfl hxi hyi
  rw [mx_tal_app]
  have lg := hj.2.2.2.1
  have ll := hl
  obtain ⟨l1, l2, l3, l4, l5, l6, l7, l8, l9⟩ := ll
  have ht := mo_told_m hr.1 hl e n x' y' b1 (fun q => by have := l6 q; rw [hx q]; exact ⟨⟨this.1, this.2.1⟩, this.2.2⟩) (fun q => by have := l8 q; rw [hy q]; exact ⟨⟨this.1, this.2.1⟩, this.2.2⟩)
  have w2 := hj.1.2.1
  rcases mx_fi_r (mx_al ((mx_tal μ L).1 5) ((mx_tal μ L).1 6) ((mx_tal μ L).1 7) ((mx_tal μ L).1 8) ((mx_tal μ L).1 9) k o (mx_gp (mx_tal μ L).2 x) (mx_gp (mx_tal μ L).2 y)) ((mx_tal μ L).1 2 3) (by omega) with ⟨f, -⟩ | ⟨i, f, -⟩
  · have f : mx_fm (mx_tal μ L).1 k o (mx_gp (mx_tal μ L).2 x) (mx_gp (mx_tal μ L).2 y) = -1 := f
    obtain ⟨τ', p1, p2, p3⟩ := ht.1 f
    have ev : mx_tv (mx_tal μ L) (k, o, x, y, cl) = (mx_tln (mx_tal μ L).1 k o (mx_gp (mx_tal μ L).2 x) (mx_gp (mx_tal μ L).2 y), (mx_tal μ L).2 ++ [(mx_tal μ L).1 2 9]) := by
      unfold mx_tv mx_twv
      dsimp only
      rw [if_pos f]
    refine ⟨_, τ', p1, p2, step, ?_, ?_⟩
    · rw [ev]; exact mx_tln_rl hl hr p2 p3
    · rw [ev]
      dsimp only
      rw [List.getElem?_append_right (by omega), lg, Nat.sub_self]; rfl
  · have f : mx_fm (mx_tal μ L).1 k o (mx_gp (mx_tal μ L).2 x) (mx_gp (mx_tal μ L).2 y) = i := f
    have p1 := ht.2 i f
    have ev : mx_tv (mx_tal μ L) (k, o, x, y, cl) = ((mx_tal μ L).1, (mx_tal μ L).2 ++ [(mx_tal μ L).1 9 i]) := by
      unfold mx_tv mx_twv
      dsimp only
      rw [if_neg (by omega), f, Int.toNat_natCast]
    refine ⟨_, τ, p1, mx_fq_rf, step, ?_, ?_⟩
    · rw [ev]; exact hr
    · rw [ev]
      dsimp only
      rw [List.getElem?_append_right (by omega), lg, Nat.sub_self]; rfl
end
