/-! DEALS -/
def mx_sd (s : Int) : Int := am_w (am_w (s * 1103515245) + 12345)
def mx_drw (s v : Int) : Int := Int.tmod (am_ushr s 16) v
theorem mx_ush (s : Int) : 0 ≤ am_ushr s 16 ∧ am_ushr s 16 < 65536 := by
  unfold am_ushr
  have h : ((16 : Int) % 32).toNat = 16 := by decide
  rw [h]
  have h0 : 0 ≤ s % 4294967296 / 2 ^ 16 ∧ s % 4294967296 / 2 ^ 16 < 65536 := by
    rw [show (2 : Int) ^ 16 = 65536 by decide]
    omega
  rw [mx_w_id (by omega) (by omega)]
  exact h0
theorem mx_drw_b (s v : Int) (hv : 0 < v) : 0 ≤ mx_drw s v ∧ mx_drw s v < v := by
  unfold mx_drw
  have := mx_ush s
  exact ⟨Int.tmod_nonneg _ this.1, Int.tmod_lt_of_pos _ hv⟩
section
variable {t n : Nat} {σ μ : am_M}
theorem me_draw_s (d : Nat) (v : Int) (σ : am_M) (hv : 0 < v) : me_draw (d + 1) v σ n = some (mx_drw (mx_sd (σ 2 16)) v, am_wr σ 2 16 (mx_sd (σ 2 16)), n) := by
  rw [me_draw_e, mx_m, if_pos hv, mx_if_t (by omega), mx_wr_at]
  rfl
theorem mo_draw_s (d : Nat) (v : Int) (σ : am_M) (hv : 0 < v) : mo_draw (d + 1) v σ n = some (mx_drw (mx_sd (σ 82 5)) v, am_wr σ 82 5 (mx_sd (σ 82 5)), n) := by
  rw [mo_draw_e, mx_m, mx_if_t (by omega), mx_wr_at]
  rfl
theorem may_m (hg : mx_gd μ) (d d2 : Nat) (k o x' y' : Int) (hk : mx_kd k) (hk1 : k ≠ 1) (ho : 0 ≤ o ∧ o < 8) (ho4 : 4 ≤ k → o < 4) (hx : 0 ≤ x' ∧ x' < μ 2 9) (hy : 5 ≤ k → 0 ≤ y' ∧ y' < μ 2 9) (y : Int) (hy1 : k < 5 → y = -1) (hy2 : 5 ≤ k → y = μ 10 y'.toNat) :
    ∃ b : Bool, me_mayBe (d + 5) k o (μ 10 x'.toNat) y μ n = some (mx_b b, μ, n) ∧ (b = true → mx_lm μ k o (μ 10 x'.toNat) y) ∧
      ∀ τ, mx_rl μ τ → ∃ τ' : am_M, mo_may (d2 + 5) k o x' y' τ n = some (mx_b b, τ', n) ∧ mx_Fr [104, 105, 106] τ τ' := by
  have h64 := hg.2.1
  have hW := hg.1
  have w2 := hW.2.1
  have s2 := hW.2.2.1.2
  have r1 := s2 x'.toNat (by omega)
  have r2 : 5 ≤ k → 0 ≤ y ∧ y < μ 2 9 ∧ μ 10 y.toNat = y := fun q => by
    have h1 := hy q
    have h2 := s2 y'.toNat (by omega)
    rw [hy2 q]
    exact ⟨h2.1, by omega, h2.2.2⟩
  have e1 : (if 0 ≤ μ 10 x'.toNat ∧ μ 10 x'.toNat < μ 2 9 then μ 11 (μ 10 x'.toNat).toNat else 0) = μ 11 (μ 10 x'.toNat).toNat := if_pos ⟨r1.1, by omega⟩
  have e2 : (if 0 ≤ y ∧ y < μ 2 9 then μ 11 y.toNat else 0) = mx_yc (μ 11) y := by
    unfold mx_yc
    by_cases q : k < 5
    · rw [hy1 q]; rfl
    · have := r2 (by omega)
      rw [if_pos ⟨this.1, this.2.1⟩, if_pos this.1]
  have e3 : mx_tc (μ 3) (μ 11) k o (μ 10 x'.toNat) = μ 11 (μ 10 x'.toNat).toNat := by
    unfold mx_tc
    rw [if_neg hk1, if_pos r1.1]
  refine ⟨mx_ft k o (μ 11 (μ 10 x'.toNat).toNat) (mx_yc (μ 11) y), ?_, fun q => ⟨hk, ho, fun z => absurd z hk1, ho4, fun z => absurd z hk1, fun _ => ⟨r1.1, by omega, r1.2.2⟩, hy1, r2, by rw [e3]; exact q⟩, fun τ hr => ?_⟩
  · rw [me_mayBe_s _ _ _ _ _ _ _ (by omega), e1, e2]
  · exact mo_may_s hW hr.1 hr.2 (d2 + 2) n k o x' y' hk hk1 hx hy (mx_yc (μ 11) y) (fun q => by
      have := r2 q
      unfold mx_yc
      rw [if_pos this.1, hy2 q])
theorem deal_step (hg : mx_gd μ) (hp : 0 < μ 2 9) (hv : 0 ≤ μ 2 17 ∧ μ 2 17 < 2147482000) (d : Nat) :
    ∃ μ' : am_M, me_dealOne (d + 6) μ n = some (0, μ', n) ∧ mx_Fq [5, 6, 7, 8, 9, 10, 11, 12] [(2, 3), (2, 9), (2, 16), (2, 17)] μ μ' ∧ mx_gd μ' ∧ (∀ S W, mx_Fs μ S W → mx_Fs μ' S W) ∧ mx_vs 1 μ μ' ∧ (μ 2 3 ≤ μ' 2 3 ∧ μ 2 9 ≤ μ' 2 9 ∧ μ' 2 3 ≤ μ 2 3 + 1) ∧
      ∀ τ : am_M, mx_rl μ τ → τ 82 5 = μ 2 16 → ∃ τ' : am_M, mx_Fq [89, 90, 91, 92, 93, 94, 95, 104, 105, 106] [(82, 1), (82, 2), (82, 5)] τ τ' ∧ mx_rl μ' τ' ∧ τ' 82 5 = μ' 2 16 ∧
        ∀ N z i : Nat, i < N → N ≤ 20 → z ≤ 20 → mo_deal_36 (d + 6) N z i τ n = mo_deal_36 (d + 6) N ((z : Int) + (μ' 2 3 - μ 2 3)) ((i + 1 : Nat) : Int) τ' n := by
  have h64 := hg.2.1
  have w2 := hg.1.2.1
  obtain ⟨s1, hs1⟩ : ∃ s, s = mx_sd (μ 2 16) := ⟨_, rfl⟩
  obtain ⟨s2, hs2⟩ : ∃ s, s = mx_sd s1 := ⟨_, rfl⟩
  obtain ⟨s3, hs3⟩ : ∃ s, s = mx_sd s2 := ⟨_, rfl⟩
  obtain ⟨c, hc⟩ : ∃ c, c = mx_drw s1 4 := ⟨_, rfl⟩
  obtain ⟨x, hx⟩ : ∃ x, x = mx_drw s2 (μ 2 9) := ⟨_, rfl⟩
  obtain ⟨y, hy⟩ : ∃ y, y = mx_drw s3 (μ 2 9) := ⟨_, rfl⟩
  have bc := mx_drw_b s1 4 (by decide)
  have bx := mx_drw_b s2 (μ 2 9) hp
  have by' := mx_drw_b s3 (μ 2 9) hp
  rw [← hc] at bc
  rw [← hx] at bx
  rw [← hy] at by'
  obtain ⟨μ0, hμ0⟩ : ∃ μ0, μ0 = am_wr (am_wr (am_wr μ 2 16 s1) 2 16 s2) 2 16 s3 := ⟨_, rfl⟩
  have F0 : mx_Fq [] [(2, 16)] μ μ0 := by rw [hμ0]; exact mx_fq_wr (mx_fq_wr (mx_fq_wr mx_fq_rf rfl) rfl) rfl
  have c0 : ∀ i j, i ≠ 2 → μ0 i j = μ i j := fun i j q => F0 i j (by simp) (by simp only [List.mem_cons, List.not_mem_nil, or_false, Prod.mk.injEq]; omega)
  have c2 : ∀ j, j ≠ 16 → μ0 2 j = μ 2 j := fun j q => F0 2 j (by simp) (by simp only [List.mem_cons, List.not_mem_nil, or_false, Prod.mk.injEq]; omega)
  have cs : μ0 2 16 = s3 := by rw [hμ0, mx_wr_at]
  have g0 : mx_gd μ0 := mx_gd_fr hg (fun i j a b q => by
    by_cases z : i = 2
    · subst z; exact c2 j (by have := q rfl; omega)
    · exact c0 i j z)
  have m9 := c2 9 (by decide)
  have m10 : μ0 10 = μ 10 := funext fun j => c0 10 j (by decide)
  obtain ⟨b, b1, b2, b3⟩ := may_m (n := n) g0 d (d + 1) 5 c x y (Or.inr (Or.inr (Or.inr (Or.inl rfl)))) (by decide) ⟨by omega, by omega⟩ (fun _ => bc.2) ⟨bx.1, by rw [m9]; exact bx.2⟩ (fun _ => ⟨by'.1, by rw [m9]; exact by'.2⟩) (μ0 10 y.toNat) (fun q => by omega) (fun _ => rfl)
  have vs0 : ∀ {k}, mx_vs k μ μ0 := Or.inr ⟨c2 17 (by decide), c2 3 (by decide), c2 9 (by decide), fun i a b => funext fun j => c0 i j (by omega)⟩
  have Fs0 : ∀ S W, mx_Fs μ S W → mx_Fs μ0 S W := fun S W h => mx_Fs_mu h (fun i j a b q => by
    by_cases z : i = 2
    · subst z; exact c2 j (by have := q rfl; omega)
    · exact c0 i j z)
  have rl0 : ∀ τ, mx_rl μ τ → mx_rl μ0 τ := fun τ h => mx_rl_mu h (fun i j a b q => by
    by_cases z : i = 2
    · subst z; exact c2 j (by have := q rfl; omega)
    · exact c0 i j z)
  -- the class, up to whether it may be
  have cls : me_dealOne (d + 6) μ n = (if mx_b b = 0 then some (0, μ0, n) else (me_tell (d + 5) 5 c (μ0 10 x.toNat) (μ0 10 y.toNat) μ0 n).bind fun q7 => some (0, q7.2.1, q7.2.2)) := by
    have e1 : (am_wr μ 2 16 s1) 2 16 = s1 := mx_wr_at
    have e2 : (am_wr μ 2 16 s1) 2 9 = μ 2 9 := mx_wr_off (by decide)
    have e3 : (am_wr (am_wr μ 2 16 s1) 2 16 s2) 2 16 = s2 := mx_wr_at
    have e4 : (am_wr (am_wr μ 2 16 s1) 2 16 s2) 2 9 = μ 2 9 := by rw [mx_wr_off (by decide)]; exact e2
    have e5 : (am_wr (am_wr μ 2 16 s1) 2 16 s2) 10 = μ 10 := by rw [mx_wr_ne (by decide), mx_wr_ne (by decide)]
    have r1 : me_root (d + 5) x (am_wr (am_wr μ 2 16 s1) 2 16 s2) n = some (μ 10 x.toNat, am_wr (am_wr μ 2 16 s1) 2 16 s2, n) := by
      rw [me_root_s _ _ _ _ (by rw [e4]; omega), e4, e5, if_pos bx]
    have r2 : me_root (d + 5) y μ0 n = some (μ 10 y.toNat, μ0, n) := by
      rw [me_root_s _ _ _ _ (by rw [m9]; omega), m9, m10, if_pos by']
    rw [me_dealOne_e, me_draw_s _ _ _ (by decide), Option.bind_some, ← hs1, ← hc]
    dsimp only
    rw [e2, me_draw_s _ _ _ hp, Option.bind_some, e1, ← hs2, ← hx]
    dsimp only
    rw [r1, Option.bind_some]
    dsimp only
    rw [e4, me_draw_s _ _ _ hp, Option.bind_some, e3, ← hs3, ← hy, ← hμ0]
    dsimp only
    rw [r2, Option.bind_some]
    dsimp only
    rw [← m10, b1, Option.bind_some]
  -- the reference, up to whether it may be
  have ref : ∀ τ : am_M, mx_rl μ τ → τ 82 5 = μ 2 16 → ∃ τ0 : am_M, mx_Fq [] [(82, 5)] τ τ0 ∧ mx_rl μ0 τ0 ∧ τ0 82 5 = s3 ∧ ∀ N z i : Nat, i < N → N ≤ 20 → mo_deal_36 (d + 6) N z i τ n = (if τ0 82 1 = 64 then mo_deal_36 (d + 6) N z ((i + 1 : Nat) : Int) τ0 n else (mo_may (d + 6) 5 c x y τ0 n).bind fun q4 => if q4.1 = 0 then mo_deal_36 (d + 6) N z ((i + 1 : Nat) : Int) q4.2.1 q4.2.2 else (mo_alike (d + 6) 5 c x y q4.2.1 q4.2.2).bind fun q5 => if q5.1 = -1 then ((mo_told (d + 6) 5 c x y q5.2.1 q5.2.2).bind fun q6 => mo_deal_36 (d + 6) N (am_w ((z : Int) + 1)) ((i + 1 : Nat) : Int) q6.2.1 q6.2.2) else mo_deal_36 (d + 6) N z ((i + 1 : Nat) : Int) q5.2.1 q5.2.2) := by
    intro τ hr h5
    have e1 : (am_wr τ 82 5 s1) 82 5 = s1 := mx_wr_at
    have hp2 : τ 82 2 = μ 2 9 := hr.1.2.2.2.1
    have e2 : (am_wr τ 82 5 s1) 82 2 = μ 2 9 := by rw [mx_wr_off (by decide)]; exact hp2
    have e3 : (am_wr (am_wr τ 82 5 s1) 82 5 s2) 82 5 = s2 := mx_wr_at
    have e4 : (am_wr (am_wr τ 82 5 s1) 82 5 s2) 82 2 = μ 2 9 := by rw [mx_wr_off (by decide)]; exact e2
    refine ⟨am_wr (am_wr (am_wr τ 82 5 s1) 82 5 s2) 82 5 s3, mx_fq_wr (mx_fq_wr (mx_fq_wr mx_fq_rf rfl) rfl) rfl, rl0 _ (mx_rl_fr hr (fun i j a b => ?_) (fun j a => ?_)), mx_wr_at, fun N z i hi hN => ?_⟩
    · rw [mx_wr_no (by omega), mx_wr_no (by omega), mx_wr_no (by omega)]
    · rw [mx_wr_no (by omega), mx_wr_no (by omega), mx_wr_no (by omega)]
    · have hlt : (i : Int) < N := by omega
      rw [mo_deal_36_e, if_pos hlt, mo_draw_s _ _ _ (by decide), Option.bind_some, h5, ← hs1, ← hc]
      dsimp only
      rw [e2, mo_draw_s _ _ _ hp, Option.bind_some, e1, ← hs2, ← hx]
      dsimp only
      rw [e4, mo_draw_s _ _ _ hp, Option.bind_some, e3, ← hs3, ← hy]
      dsimp only
      rw [mx_w_nat (by omega)]
  by_cases full : μ 2 3 = 64
  · -- no room
    have same : me_dealOne (d + 6) μ n = some (0, μ0, n) := by
      rw [cls]
      cases b with
      | false => rfl
      | true =>
        rw [mx_bT]
        rcases me_tell_s (n := n) g0 (b2 rfl) (d + 2) with ⟨e, -, -, h3, -⟩ | ⟨-, ⟨h2, -⟩ | ⟨-, h3⟩⟩
        · rw [h3]; rfl
        · rw [c2 3 (by decide)] at h2; omega
        · rw [h3]; rfl
    refine ⟨μ0, same, mx_fq_up F0 rfl, g0, Fs0, vs0, ⟨by rw [c2 3 (by decide)]; exact Int.le_refl _, by rw [m9]; exact Int.le_refl _, by rw [c2 3 (by decide)]; omega⟩, fun τ hr h5 => ?_⟩
    obtain ⟨τ0, d1, d2, d3, d4⟩ := ref τ hr h5
    refine ⟨τ0, mx_fq_up d1 rfl, d2, by rw [d3, cs], fun N z i hi hN hz => ?_⟩
    have c82 : τ0 82 1 = 64 := by rw [d2.1.2.2.1, c2 3 (by decide)]; exact full
    rw [d4 N z i hi hN, if_pos c82, c2 3 (by decide), Int.sub_self, Int.add_zero]
  · have nf : ∀ τ0, mx_rl μ0 τ0 → ¬ (τ0 82 1 = 64) := fun τ0 h => by rw [h.1.2.2.1, c2 3 (by decide)]; exact full
    cases b with
    | false =>
      refine ⟨μ0, by rw [cls]; rfl, mx_fq_up F0 rfl, g0, Fs0, vs0, ⟨by rw [c2 3 (by decide)]; exact Int.le_refl _, by rw [m9]; exact Int.le_refl _, by rw [c2 3 (by decide)]; omega⟩, fun τ hr h5 => ?_⟩
      obtain ⟨τ0, d1, d2, d3, d4⟩ := ref τ hr h5
      obtain ⟨τ1, e1, e2⟩ := b3 τ0 d2
      refine ⟨τ1, mx_fq_tr (mx_fq_up d1 rfl) (mx_fq_up (mx_fq_of e2) rfl), mx_rl_fr d2 (fun i j a b => congrFun (e2 i (by simp only [List.mem_cons, List.not_mem_nil, or_false, not_or]; omega)) j) (fun j _ => congrFun (e2 82 (by decide)) j), by rw [e2 82 (by decide), d3, cs], fun N z i hi hN hz => ?_⟩
      rw [d4 N z i hi hN, if_neg (nf τ0 d2), e1, c2 3 (by decide), Int.sub_self, Int.add_zero]; rfl
    | true =>
      have hl := b2 rfl
      have s22 := g0.1.2.2.1.2
      obtain ⟨gi, μ', a1, a2, a3, a4, a5, ⟨a6, a6'⟩, -, -, -, a13, a14⟩ := tell_b (n := n) g0 (d + 2) (d + 3) hl (fun _ => by rw [c2 3 (by decide)]; omega) (by rw [c2 17 (by decide)]; omega)
      have m3 : μ 2 3 ≤ μ' 2 3 := by rw [a6, c2 3 (by decide)]; split <;> omega
      have m4 : μ' 2 3 ≤ μ 2 3 + 1 := by rw [a6, c2 3 (by decide)]; split <;> omega
      refine ⟨μ', ?_, mx_fq_tr (mx_fq_up F0 rfl) (mx_fq_up a2 rfl), a3, fun S W h => a4 S W (Fs0 S W h), mx_vs_up (mx_vs_tr vs0 a5 (k := 0) (by decide) (by decide)) (by decide), ⟨m3, by rw [← m9]; exact a6', m4⟩, fun τ hr h5 => ?_⟩
      · rw [cls, mx_bT, a1]; rfl
      obtain ⟨τ0, d1, d2, d3, d4⟩ := ref τ hr h5
      obtain ⟨τ1, e1, e2⟩ := b3 τ0 d2
      have rl1 : mx_rl μ0 τ1 := mx_rl_fr d2 (fun i j a b => congrFun (e2 i (by simp only [List.mem_cons, List.not_mem_nil, or_false, not_or]; omega)) j) (fun j _ => congrFun (e2 82 (by decide)) j)
      have X : (5 : Int) ≠ 1 → (0 ≤ x ∧ x < μ0 2 9) ∧ μ0 10 x.toNat = μ0 10 x.toNat := fun _ => ⟨⟨bx.1, by rw [m9]; exact bx.2⟩, rfl⟩
      have Y : (5 : Int) ≤ 5 → (0 ≤ y ∧ y < μ0 2 9) ∧ μ0 10 y.toNat = μ0 10 y.toNat := fun _ => ⟨⟨by'.1, by rw [m9]; exact by'.2⟩, rfl⟩
      obtain ⟨τ2, f1, f2, f3⟩ := a14 τ1 rl1 x y X Y
      have ak := mo_alike_m (n := n) rl1 hl (d + 4) x y X Y
      by_cases q : mx_fm μ0 5 c (μ0 10 x.toNat) (μ0 10 y.toNat) = -1
      · rw [if_pos q] at a6
        refine ⟨τ2, mx_fq_tr (mx_fq_up d1 rfl) (mx_fq_tr (mx_fq_up (mx_fq_of e2) rfl) (mx_fq_up f2 rfl)), f3, by rw [f2 82 5 (by decide) (by decide), e2 82 (by decide), d3, a2 2 16 (by decide) (by decide), cs], fun N z i hi hN hz => ?_⟩
        rw [d4 N z i hi hN, if_neg (nf τ0 d2), e1, Option.bind_some]
        dsimp only
        rw [mx_bT, ak, Option.bind_some]
        dsimp only
        rw [if_pos q, f1, Option.bind_some, a6, c2 3 (by decide), mx_w_id (by omega) (by omega), show (z : Int) + (μ 2 3 + 1 - μ 2 3) = z + 1 by omega]
      · obtain ⟨u1, -⟩ := a13 q
        refine ⟨τ1, mx_fq_tr (mx_fq_up d1 rfl) (mx_fq_up (mx_fq_of e2) rfl), by rw [u1]; exact rl1, by rw [e2 82 (by decide), d3, u1, cs], fun N z i hi hN hz => ?_⟩
        rw [d4 N z i hi hN, if_neg (nf τ0 d2), e1, Option.bind_some]
        dsimp only
        rw [mx_bT, ak, Option.bind_some]
        dsimp only
        rw [if_neg q, u1, c2 3 (by decide), Int.sub_self, Int.add_zero]
theorem pm_deal_44_s (d N : Nat) (m0 : Int) (hN : N ≤ 20) : ∀ (k i : Nat) (μ : am_M), i + k = N → mx_gd μ → 0 < μ 2 9 → (0 ≤ μ 2 17 ∧ μ 2 17 ≤ 2100000 + (i : Int)) → (0 ≤ m0 ∧ m0 ≤ μ 2 3 ∧ μ 2 3 ≤ m0 + i) →
    ∃ μ' : am_M, pm_deal_44 (d + 6) N m0 i μ n = some (μ' 2 3 - m0, μ', n) ∧ mx_Fq [5, 6, 7, 8, 9, 10, 11, 12] [(2, 3), (2, 9), (2, 16), (2, 17)] μ μ' ∧ mx_gd μ' ∧ (∀ S W, mx_Fs μ S W → mx_Fs μ' S W) ∧ mx_vs k μ μ' ∧ μ 2 3 ≤ μ' 2 3 ∧
      ∀ τ : am_M, mx_rl μ τ → τ 82 5 = μ 2 16 → ∃ τ' : am_M, mx_Fq [89, 90, 91, 92, 93, 94, 95, 104, 105, 106] [(82, 1), (82, 2), (82, 5)] τ τ' ∧ mx_rl μ' τ' ∧ τ' 82 5 = μ' 2 16 ∧ mo_deal_36 (d + 6) N (μ 2 3 - m0) i τ n = some (μ' 2 3 - m0, τ', n) := by
  intro k
  induction k with
  | zero =>
    intro i μ hi hg hp hv hm
    have h64 := hg.2.1
    refine ⟨μ, ?_, fun _ _ _ _ => rfl, hg, fun _ _ h => h, mx_vs_rf, Int.le_refl _, fun τ hr h5 => ⟨τ, fun _ _ _ _ => rfl, hr, h5, ?_⟩⟩
    · rw [pm_deal_44_e, if_neg (by omega), mx_w_id (by omega) (by omega)]
    · rw [mo_deal_36_e, if_neg (by omega)]
  | succ k ih =>
    intro i μ hi hg hp hv hm
    obtain ⟨μ1, a1, a2, a3, a4, a5, a6, a7⟩ := deal_step (n := n) hg hp (by omega) d
    have vb := mx_vs_b a5 (by decide)
    obtain ⟨μ', b1, b2, b3, b4, b5, b6, b7⟩ := ih (i + 1) μ1 (by omega) a3 (by omega) (by omega) (by omega)
    refine ⟨μ', ?_, mx_fq_tr a2 b2, b3, fun S W h => b4 S W (a4 S W h), mx_vs_up (mx_vs_tr a5 b5 (by decide) (by omega)) (by omega), by omega, fun τ hr h5 => ?_⟩
    · rw [pm_deal_44_e, if_pos (by omega), a1, Option.bind_some, mx_w_nat (by omega)]; exact b1
    · obtain ⟨τ1, c1, c2, c3, c4⟩ := a7 τ hr h5
      obtain ⟨τ', d1, d2, d3, d4⟩ := b7 τ1 c2 c3
      refine ⟨τ', mx_fq_tr c1 d1, d2, d3, ?_⟩
      have hz : (((μ 2 3 - m0).toNat : Nat) : Int) = μ 2 3 - m0 := by omega
      have := c4 N (μ 2 3 - m0).toNat i (by omega) hN (by omega)
      rw [hz] at this
      rw [this, show μ 2 3 - m0 + (μ1 2 3 - μ 2 3) = μ1 2 3 - m0 by omega]
      exact d4
theorem deal_c (hI : mx_Inv t n σ) (ht : t < 1000) (d : Nat) (v1 : Int) : mx_C t n σ (fun σ n => pm_deal (d + 7) v1 σ n) (fun σ n => mo_deal (d + 7) v1 σ n) := by
  have hb := mx_I_b hI
  have hg := mx_I_gd hI
  have hv := (mx_I_A hI).1
  have e82 : ∀ k, (mx_rf σ k) 82 2 = σ 2 9 := fun k => by rw [mx_rf_ne (by decide)]; exact hb.2.2.2
  by_cases h0 : σ 2 9 = 0
  · refine mx_C_ref hI 5 (-5) ?_ ?_
    · rw [pm_deal_e, if_pos h0, pm_refuse_s _ _ _ _ (by omega), Option.bind_some]; rfl
    · rw [mo_deal_e, if_pos (by rw [e82]; exact h0), mo_no_s _ _ _ _ (by omega), Option.bind_some]; rfl
  by_cases h1 : 1 ≤ v1 ∧ v1 ≤ 20
  · obtain ⟨N, rfl⟩ : ∃ N : Nat, v1 = N := ⟨v1.toNat, by omega⟩
    have hb1 : ¬ ((N : Int) < 1) := by omega
    have hb2 : ¬ (20 < (N : Int)) := by omega
    obtain ⟨μ', p1, p2, p3, p4, p5, p6, p7⟩ := pm_deal_44_s (n := n) d N (σ 2 3) (by omega) N 0 σ (by omega) hg (by omega) (by omega) (by omega)
    have k : ∀ i j, 82 ≤ i → μ' i j = σ i j := fun i j a => p2 i j (by simp only [List.mem_cons, List.not_mem_nil, or_false, not_or]; omega) (by simp only [List.mem_cons, List.not_mem_nil, or_false, not_or, Prod.mk.injEq]; omega)
    have rl1 : mx_rl σ μ' := mx_rl_fr (mx_I_rl hI) (fun i j a b => k i j (by omega)) (fun j _ => k 82 j (by decide))
    have i3 := mx_I_3 hI
    have i4 := mx_I_4 hI
    have i2 := mx_I_2 hI
    obtain ⟨τ', q1, q2, q3, q4⟩ := p7 μ' rl1 (by rw [k 82 5 (by decide)]; exact i3.2)
    have g : mx_Fq mx_CM mx_PM σ τ' := mx_fq_tr (mx_fq_up p2 rfl) (mx_fq_up q1 rfl)
    have hc : ∀ i j, 2 ≤ i → i ≤ 14 → τ' i j = μ' i j := fun i j a b => q1 i j (by simp only [List.mem_cons, List.not_mem_nil, or_false, not_or]; omega) (by simp only [List.mem_cons, List.not_mem_nil, or_false, not_or, Prod.mk.injEq]; omega)
    have k13 : μ' 13 = σ 13 := funext fun j => p2 13 j (by decide) (by simp)
    have k14 : μ' 14 = σ 14 := funext fun j => p2 14 j (by decide) (by simp)
    have k96 : τ' 96 = σ 96 := funext fun j => by rw [q1 96 j (by decide) (by simp)]; exact k 96 j (by decide)
    have k97 : τ' 97 = σ 97 := funext fun j => by rw [q1 97 j (by decide) (by simp)]; exact k 97 j (by decide)
    refine mx_C_of (μ' 2 3 - σ 2 3) μ' τ' ?_ ?_ ?_
    · rw [pm_deal_e, if_neg h0, if_neg hb1, if_neg hb2]; exact p1
    · rw [mo_deal_e, if_neg (by rw [k 82 2 (by decide), hb.2.2.2]; exact h0), mo_isFrom_s, Option.bind_some, mx_bi_p h1]
      rw [Int.sub_self] at q4
      exact q4
    · refine mx_Inv_memo2 hI g (mx_I1_of p3 q2 hc) (mx_I2_of (by rw [k13, k96]; exact p4 _ _ i2.1) (fun r hr => by rw [k97, k14]; exact i2.2.1 r hr) ?_ hc) ⟨?_, ?_⟩ ?_ ?_ (k := N) (by omega) ?_
      · rw [k14, q1 82 3 (by decide) (by decide), k 82 3 (by decide)]; exact i2.2.2
      · rw [q1 82 4 (by decide) (by decide), k 82 4 (by decide), hc 2 15 (by decide) (by decide), p2 2 15 (by decide) (by decide)]; exact i3.1
      · rw [q3, hc 2 16 (by decide) (by decide)]
      · unfold mx_I4
        rw [q1 82 6 (by decide) (by decide), k 82 6 (by decide), q1 0 12 (by decide) (by decide), p2 0 12 (by decide) (by decide)]; exact i4
      · rw [hc 2 3 (by decide) (by decide)]; exact p6
      · unfold mx_vs at p5 ⊢
        rw [hc 2 17 (by decide) (by decide), hc 2 3 (by decide) (by decide), hc 2 9 (by decide) (by decide)]
        rcases p5 with q | q
        · exact Or.inl q
        · exact Or.inr ⟨q.1, q.2.1, q.2.2.1, fun i a b => (funext fun j => hc i j (by omega) (by omega)).trans (q.2.2.2 i a b)⟩
  · refine mx_C_ref hI 6 (-6) ?_ (by rw [mo_deal_e, if_neg (by rw [e82]; exact h0), mo_isFrom_s, Option.bind_some, mx_bi_n h1, mo_no_s _ _ _ _ (by omega), Option.bind_some]; rfl)
    by_cases q : v1 < 1
    · rw [pm_deal_e, if_neg h0, if_pos q, pm_refuse_s _ _ _ _ (by omega), Option.bind_some]; rfl
    · rw [pm_deal_e, if_neg h0, if_neg q, if_pos (by omega), pm_refuse_s _ _ _ _ (by omega), Option.bind_some]; rfl
end
