section
variable {n : Nat} {μ : am_M} {al : Int}
theorem mo_sum_31_s (d : Nat) (i : Nat) (hi : i < 400) (v : Int) (hv : 0 ≤ v ∧ v ≤ 10000000000000) (σ : am_M) (y : Int) (h4 : σ 112 i = y) (hI : mx_cI μ al (σ 107)) (ok : mx_vk μ y) :
    mo_sum_31 d i v σ n = some (if 1000000000000 < v + mx_in (σ 107) y then 4000000000000 else v + mx_in (σ 107) y, σ, n) := by
  have I : (0 : Int) ≤ (i : Int) ∧ (i : Int) < 400 := ⟨by omega, by omega⟩
  rw [mo_sum_31_e, ix_112 I.1 I.2, ix_112 I.1 I.2, Int.toNat_natCast, h4]
  rcases ok with q | ⟨j, q1, q2, -⟩
  · have e : mx_in (σ 107) y = 0 := by unfold mx_in; rw [if_pos q]
    rw [if_pos q, e, Int.add_zero]
    by_cases z : 1000000000000 < v
    · rw [if_pos (mx_cmpG.mpr z), if_pos z]
    · rw [if_neg (fun a => z (mx_cmpG.mp a)), if_neg z]
  · have ny : ¬ y = -1 := by omega
    have e : mx_in (σ 107) y = σ 107 j := by unfold mx_in; rw [if_neg ny, q1, Int.toNat_natCast]
    have b := mx_cI_b hI j q2
    have J : (0 : Int) ≤ (j : Int) ∧ (j : Int) < 1920 := ⟨by omega, by omega⟩
    rw [if_neg ny, e, q1, ix_107 J.1 J.2, Int.toNat_natCast, mx_x_id (by omega) (by omega)]
    by_cases z : 1000000000000 < v + σ 107 j
    · rw [if_pos (mx_cmpG.mpr z), if_pos z]
    · rw [if_neg (fun a => z (mx_cmpG.mp a)), if_neg z]
theorem mo_sum_s (d : Nat) (i : Nat) (σ : am_M) (W : List mx_wt) (w : mx_wt) (hW : mx_LW σ W) (hL : W.length ≤ 386) (hw : W[i]? = some w) (ok : mx_wok μ w) (hI : mx_cI μ al (σ 107)) : mo_sum (d + 1) i σ n = some (mx_s1 (σ 107) w, σ, n) := by
  have hi : i < W.length := (List.getElem?_eq_some_iff.mp hw).1
  have I : (0 : Int) ≤ (i : Int) ∧ (i : Int) < 400 := ⟨by omega, by omega⟩
  obtain ⟨-, -, e3, e4, -, e6⟩ := hW.2 i w hw
  have p := ok.2.2
  rw [mo_sum_e, ix_114 I.1 I.2, ix_111 I.1 I.2, ix_111 I.1 I.2, Int.toNat_natCast, e3, e6]
  unfold mx_s1 mx_sum
  rcases ok.1 with q | ⟨j, q1, q2, -⟩
  · have e : mx_in (σ 107) w.2.2.1 = 0 := by unfold mx_in; rw [if_pos q]
    rw [if_pos q, e, Int.add_zero]
    exact mo_sum_31_s d i (by omega) _ ⟨by omega, by omega⟩ σ _ e4 hI ok.2.1
  · have ny : ¬ w.2.2.1 = -1 := by omega
    have e : mx_in (σ 107) w.2.2.1 = σ 107 j := by unfold mx_in; rw [if_neg ny, q1, Int.toNat_natCast]
    have b := mx_cI_b hI j q2
    have J : (0 : Int) ≤ (j : Int) ∧ (j : Int) < 1920 := ⟨by omega, by omega⟩
    rw [if_neg ny, e, q1, ix_107 J.1 J.2, Int.toNat_natCast, mx_x_id (by omega) (by omega)]
    exact mo_sum_31_s d i (by omega) _ ⟨by omega, by omega⟩ σ _ e4 hI ok.2.1
abbrev mx_Cc : List Nat := [107, 109, 110, 111, 112, 113, 114]
theorem mx_rW_fr2 {σ σ' : am_M} (h : mx_rW μ σ) (hF : mx_Fq mx_Cc [(82, 35)] σ σ') : mx_rW μ σ' := by
  have c : ∀ i, i ≤ 106 → i ≠ 82 → σ' i = σ i := fun i a b => funext fun j => hF i j (by simp only [List.mem_cons, List.not_mem_nil, or_false, not_or]; omega) (by simp only [List.mem_cons, List.not_mem_nil, or_false, Prod.mk.injEq]; omega)
  refine ⟨mx_rl_fr h.1 (fun i j a b => by rw [c i (by omega) (by omega)]) (fun j hj => hF 82 j (by decide) (by simp only [List.mem_cons, List.not_mem_nil, or_false, Prod.mk.injEq]; omega)), ?_⟩
  rw [c 104 (by decide) (by decide), c 105 (by decide) (by decide)]
  exact h.2
theorem mx_al_fr2 {σ σ' : am_M} (hF : mx_Fq mx_Cc [(82, 35)] σ σ') : σ' 82 4 = σ 82 4 := hF 82 4 (by decide) (by decide)
/-- what a part of a round comes to -/
def mx_ps (μ : am_M) (al : Int) (c c' : Nat → Int) (g g' : Int) (Q : Prop) : Prop := mx_cI μ al c' ∧ ((g' = g ∧ c' = c ∧ Q) ∨ (g' = 1 ∧ (∀ j, c' j ≤ c j) ∧ mx_tot c' 1920 < mx_tot c 1920))
theorem mx_ps_tr {c c1 c2 : Nat → Int} {g g1 g2 : Int} {Q1 Q2 Q : Prop} (h1 : mx_ps μ al c c1 g g1 Q1) (h2 : mx_ps μ al c1 c2 g1 g2 Q2) (hQ : c1 = c → Q1 → Q2 → Q) : mx_ps μ al c c2 g g2 Q := by
  refine ⟨h2.1, ?_⟩
  rcases h1.2 with ⟨a1, a2, a3⟩ | ⟨a1, a2, a3⟩
  · rcases h2.2 with ⟨b1, b2, b3⟩ | ⟨b1, b2, b3⟩
    · exact Or.inl ⟨b1.trans a1, b2.trans a2, hQ a2 a3 b3⟩
    · rw [a2] at b2 b3; exact Or.inr ⟨b1, b2, b3⟩
  · rcases h2.2 with ⟨b1, b2, b3⟩ | ⟨b1, b2, b3⟩
    · rw [b2]; exact Or.inr ⟨b1.trans a1, a2, a3⟩
    · exact Or.inr ⟨b1, fun j => Int.le_trans (b2 j) (a2 j), Nat.lt_trans b3 a3⟩
/-- a demand's ways, from number i on -/
theorem mo_costs_74_s (hg : mx_gd μ) (dp k : Nat) (hdd : mx_dd μ k) (W : List mx_wt) (hWl : W = mx_wl μ al k) (hL : W.length ≤ 386) : ∀ (t i : Nat) (g : Int) (σ : am_M), i + t = W.length → mx_LW σ W → mx_cI μ al (σ 107) →
    ∃ (σ' : am_M) (g' : Int), mo_costs_74 (dp + 1) g k i σ n = mo_costs_38 (dp + 1) g' (am_w ((k : Int) + 1)) σ' n ∧ mx_Fq [107] [] σ σ' ∧ mx_ps μ al (σ 107) (σ' 107) g g' (∀ (j : Nat) (w : mx_wt), i ≤ j → W[j]? = some w → σ 107 k ≤ mx_s1 (σ 107) w) := by
  have d1 := mx_dd_lt hg hdd
  have I : (0 : Int) ≤ (k : Int) ∧ (k : Int) < 1920 := ⟨by omega, by omega⟩
  intro t
  induction t with
  | zero =>
    intro i g σ hi hW hI
    refine ⟨σ, g, by rw [mo_costs_74_e, hW.1, if_neg (by omega)], mx_fq_rf, hI, Or.inl ⟨rfl, rfl, fun j w h1 h2 => ?_⟩⟩
    have := (List.getElem?_eq_some_iff.mp h2).1
    omega
  | succ t ih =>
    intro i g σ hi hW hI
    have hlt : i < W.length := by omega
    obtain ⟨w, hw⟩ : ∃ w, W[i]? = some w := ⟨W[i], List.getElem?_eq_getElem hlt⟩
    have hm : w ∈ mx_wl μ al k := by rw [← hWl]; exact List.mem_of_getElem? hw
    have ok := mx_wl_ok hg hdd hm
    have i1k : (i : Int) < 1000 := by omega
    have ilt : (i : Int) < (W.length : Int) := by omega
    rw [mo_costs_74_e, hW.1, if_pos ilt, mo_sum_s dp i σ W w hW hL hw ok hI, Option.bind_some, ix_107 I.1 I.2, mx_w_nat i1k]
    dsimp only
    rw [Int.toNat_natCast, ix_107 I.1 I.2, mx_m]
    by_cases z : mx_s1 (σ 107) w < σ 107 k
    · rw [if_pos (mx_cmpL.mpr z)]
      have F1 : mx_Fq [107] [] σ (am_wr σ 107 k (mx_s1 (σ 107) w)) := mx_fq_wr mx_fq_rf rfl
      obtain ⟨u1, u2, u3⟩ := mx_cI_up (c' := (am_wr σ 107 k (mx_s1 (σ 107) w)) 107) hg hI hdd hm z mx_wr_at (fun j hj => mx_wr_off hj)
      have L1 : mx_LW (am_wr σ 107 k (mx_s1 (σ 107) w)) W := mx_LW_fr hW (fun i a b => mx_wr_ne (by omega)) (by rw [mx_wr_ne (by decide)])
      obtain ⟨σ', g', p1, p2, p3⟩ := ih (i + 1) 1 _ (by omega) L1 u1
      refine ⟨σ', g', p1, mx_fq_tr F1 p2, mx_ps_tr (g1 := 1) (Q1 := False) ⟨u1, Or.inr ⟨rfl, u2, u3⟩⟩ p3 (fun _ q _ => q.elim)⟩
    · rw [if_neg (fun a => z (mx_cmpL.mp a))]
      obtain ⟨σ', g', p1, p2, p3⟩ := ih (i + 1) g σ (by omega) hW hI
      refine ⟨σ', g', p1, p2, mx_ps_tr (Q1 := True) ⟨hI, Or.inl ⟨rfl, rfl, trivial⟩⟩ p3 (fun _ _ q j v h1 h2 => ?_)⟩
      by_cases y : j = i
      · subst y
        rw [hw] at h2
        cases h2
        omega
      · exact q j v (by omega) h2
theorem mx_fq_nil {C C' : List Nat} {P : List (Nat × Nat)} {σ σ' : am_M} (h : mx_Fq C [] σ σ') (hc : ∀ i, i ∈ C → i ∈ C') : mx_Fq C' P σ σ' := fun i j a _ => h i j (fun q => a (hc i q)) (by simp)
/-- a round -/
theorem mo_costs_38_s (hg : mx_gd μ) (dp : Nat) : ∀ (t k : Nat) (g : Int) (σ : am_M), (k : Int) + t = μ 2 9 * 30 → mx_rW μ σ → σ 82 4 = al → mx_cI μ al (σ 107) →
    ∃ (σ' : am_M) (g' : Int), mo_costs_38 (dp + 12) g k σ n = mo_costs_30 (dp + 12) g' σ' n ∧ mx_Fq mx_Cc [(82, 35)] σ σ' ∧ mx_ps μ al (σ 107) (σ' 107) g g' (∀ j : Nat, k ≤ j → mx_dd μ j → ∀ w ∈ mx_wl μ al j, σ 107 j ≤ mx_s1 (σ 107) w) := by
  have h64 := hg.2.1
  have wg := hg.1.2.1
  have w30 : am_w (μ 2 9 * 30) = μ 2 9 * 30 := mx_w_id (by omega) (by omega)
  intro t
  induction t with
  | zero =>
    intro k g σ hk h hal hI
    refine ⟨σ, g, by rw [mo_costs_38_e, h.1.1.2.2.2.1, w30, if_neg (by omega)], mx_fq_rf, hI, Or.inl ⟨rfl, rfl, fun j h1 h2 => ?_⟩⟩
    have := h2.1
    omega
  | succ t ih =>
    intro k g σ hk h hal hI
    have klt : (k : Int) < μ 2 9 * 30 := by omega
    have w1 : am_w (Int.tdiv (k : Int) 30) = ((k / 30 : Nat) : Int) := by
      rw [show Int.tdiv (k : Int) 30 = ((k / 30 : Nat) : Int) by rw [Int.tdiv_eq_ediv_of_nonneg (by omega)]; omega, mx_w_id (by omega) (by omega)]
    have k1 : am_w ((k : Int) + 1) = ((k + 1 : Nat) : Int) := by rw [mx_w_id (by clear w1; omega) (by clear w1; omega)]; rfl
    have gl : ((k / 30 : Nat) : Int) < μ 2 9 := by clear w1 k1 w30; omega
    have g0 : (0 : Int) ≤ ((k / 30 : Nat) : Int) := by clear w1 k1 w30; omega
    have kl : k < 1920 := by clear w1 k1 w30; omega
    have kS : ((k + 1 : Nat) : Int) + t = μ 2 9 * 30 := by clear w1 k1 w30; omega
    have g144 : μ 2 9 ≤ 144 := by clear w1 k1 w30; omega
    rw [mo_costs_38_e, h.1.1.2.2.2.1, w30, if_pos klt, w1, mo_root_s (dp + 11) σ n h.1.1.2.1 g144 _ g0 gl, Option.bind_some, Int.toNat_natCast]
    dsimp only
    by_cases q : μ 10 (k / 30) = ((k / 30 : Nat) : Int)
    · have hdd : mx_dd μ k := ⟨gl, q⟩
      obtain ⟨σ1, a1, a2, a3, a4⟩ := mo_waysOf_s (n := n) hg dp k kl hdd σ h
      rw [hal] at a3 a4
      have c1 : σ1 107 = σ 107 := funext fun j => a2 107 j (by decide) (by simp)
      have F1 : mx_Fq mx_Cc [(82, 35)] σ σ1 := mx_fq_up a2 rfl
      obtain ⟨σ2, g2, b1, b2, b3⟩ := mo_costs_74_s (n := n) hg (dp + 11) k hdd _ rfl a4 (mx_wl μ al k).length 0 g σ1 (by omega) a3 (by rw [c1]; exact hI)
      have F2 : mx_Fq mx_Cc [(82, 35)] σ σ2 := mx_fq_tr F1 (mx_fq_up b2 rfl)
      have h2 := mx_rW_fr2 h F2
      rw [if_pos q, a1, Option.bind_some]
      dsimp only
      rw [show mo_costs_74 (dp + 12) g k 0 σ1 n = _ from b1, k1]
      clear w1 k1 w30
      obtain ⟨σ', g', e1, e2, e3⟩ := ih (k + 1) g2 σ2 kS h2 (by rw [mx_al_fr2 F2]; exact hal) b3.1
      rw [c1] at b3
      refine ⟨σ', g', e1, mx_fq_tr F2 e2, mx_ps_tr b3 e3 (fun cc x1 x2 j hj hj2 w hw => ?_)⟩
      by_cases z : j = k
      · subst z
        obtain ⟨i, hi⟩ := List.mem_iff_getElem?.mp hw
        exact x1 i w (Nat.zero_le _) hi
      · rw [cc] at x2
        exact x2 j (by omega) hj2 w hw
    · rw [if_neg q, k1]
      clear w1 k1 w30
      obtain ⟨σ', g', e1, e2, e3⟩ := ih (k + 1) g σ kS h hal hI
      refine ⟨σ', g', e1, e2, mx_ps_tr (Q1 := True) ⟨hI, Or.inl ⟨rfl, rfl, trivial⟩⟩ e3 (fun _ _ x2 j hj hj2 w hw => ?_)⟩
      by_cases z : j = k
      · subst z; exact absurd hj2.2 q
      · exact x2 j (by omega) hj2 w hw
end
