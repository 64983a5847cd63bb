section
variable {n : Nat} {μ σ : am_M} {al : Int} {D : Nat}
abbrev mx_Cd : List Nat := [109, 110, 111, 112, 113, 114, 138]
theorem mx_rW_fr3 {σ σ' : am_M} (h : mx_rW μ σ) (hF : mx_Fq mx_Cd [(82, 35)] σ σ') : mx_rW μ σ' := by
  have c : ∀ i, i ≤ 106 → i ≠ 82 → σ' i = σ i := fun i a b => funext fun j => hF i j (by simp only [List.mem_cons, List.not_mem_nil, or_false, not_or]; omega) (by simp only [List.mem_cons, List.not_mem_nil, or_false, Prod.mk.injEq]; omega)
  refine ⟨mx_rl_fr h.1 (fun i j a b => by rw [c i (by omega) (by omega)]) (fun j hj => hF 82 j (by decide) (by simp only [List.mem_cons, List.not_mem_nil, or_false, Prod.mk.injEq]; omega)), ?_⟩
  rw [c 104 (by decide) (by decide), c 105 (by decide) (by decide)]
  exact h.2
theorem mx_al_fr3 {σ σ' : am_M} (hF : mx_Fq mx_Cd [(82, 35)] σ σ') : σ' 82 4 = σ 82 4 := hF 82 4 (by decide) (by decide)
def mx_clq (μ : am_M) (al : Int) (f : Nat → Int) (j : Nat) : Prop := f j = 1 → ∀ w ∈ mx_wl μ al j, mx_mk f w.2.2.1 ∧ mx_mk f w.2.2.2.1
theorem mo_closes_46_s (hg : mx_gd μ) (dp : Nat) : ∀ (t k N : Nat) (g : Int) (σ : am_M), k + t = 1920 → mx_rW μ σ → σ 82 4 = al → mx_DU μ al D (σ 138) N →
    ∃ (σ' : am_M) (N' : Nat) (g' : Int), mo_closes_46 (dp + 12) N g k σ n = mo_closes_37 (dp + 12) N' g' σ' n ∧ mx_Fq mx_Cd [(82, 35)] σ σ' ∧ mx_qs μ al D (σ 138) (σ' 138) N N' g g' (∀ j : Nat, k ≤ j → j < 1920 → mx_clq μ al (σ 138) j) := by
  intro t
  induction t with
  | zero =>
    intro k N g σ hk h hal hU
    refine ⟨σ, N, g, by rw [mo_closes_46_e, if_neg (by omega)], mx_fq_rf, hU, Or.inl ⟨rfl, rfl, rfl, fun j h1 h2 => by omega⟩⟩
  | succ t ih =>
    intro k N g σ hk h hal hU
    have I : (0 : Int) ≤ (k : Int) ∧ (k : Int) < 1920 := ⟨by omega, by omega⟩
    have kl : k < 1920 := by omega
    have w1 : am_w ((k : Int) + 1) = ((k + 1 : Nat) : Int) := by rw [mx_w_id (by omega) (by omega)]; rfl
    rw [mo_closes_46_e, if_pos I.2, ix_138 I.1 I.2, Int.toNat_natCast]
    by_cases z : σ 138 k = 0
    · rw [if_pos z, w1]
      clear w1
      obtain ⟨σ', N', g', a1, a2, a3⟩ := ih (k + 1) N g σ (by omega) h hal hU
      refine ⟨σ', N', g', a1, a2, mx_qs_tr (Q1 := True) ⟨hU, Or.inl ⟨rfl, rfl, rfl, trivial⟩⟩ a3 (fun _ _ y j j1 j2 => ?_)⟩
      by_cases q : j = k
      · subst q
        intro one
        rw [z] at one
        exact absurd one (by decide)
      · exact y j (by omega) j2
    · have one : σ 138 k = 1 := by rcases hU.2.1 k kl with p | p; exact absurd p z; exact p
      have hdd := hU.2.2.1 k kl one
      obtain ⟨σ1, a1, a2, a3, a4⟩ := mo_waysOf_s (n := n) hg dp k kl hdd σ h
      rw [hal] at a3 a4
      have c1 : σ1 138 = σ 138 := funext fun j => a2 138 j (by decide) (by simp)
      obtain ⟨σ2, N2, g2, b1, b2, b3⟩ := mo_closes_78_s (n := n) hg (dp + 12) k hdd _ rfl a4 (mx_wl μ al k).length 0 N g σ1 (by omega) a3 (by rw [c1]; exact hU) (by rw [c1]; exact one)
      have F2 : mx_Fq mx_Cd [(82, 35)] σ σ2 := mx_fq_tr (mx_fq_up a2 rfl) (mx_fq_up b2 rfl)
      rw [if_neg z, a1, Option.bind_some]
      dsimp only
      rw [show ((0 : Nat) : Int) = 0 from rfl] at b1
      rw [b1, w1]
      clear w1
      rw [c1] at b3
      obtain ⟨σ', N', g', e1, e2, e3⟩ := ih (k + 1) N2 g2 σ2 (by omega) (mx_rW_fr3 h F2) (by rw [mx_al_fr3 F2]; exact hal) b3.1
      refine ⟨σ', N', g', e1, mx_fq_tr F2 e2, mx_qs_tr b3 e3 (fun q x y j j1 j2 => ?_)⟩
      rw [q] at y
      by_cases p : j = k
      · subst p
        intro _ w hw
        obtain ⟨i, hi⟩ := List.mem_iff_getElem?.mp hw
        exact x i w (Nat.zero_le _) hi
      · exact y j (by omega) j2
theorem mo_closes_37_s (hg : mx_gd μ) (dp : Nat) : ∀ (t N : Nat) (σ : am_M), 1920 ≤ N + t → mx_rW μ σ → σ 82 4 = al → mx_DU μ al D (σ 138) N →
    ∃ (σ' : am_M) (N' : Nat), mo_closes_37 (dp + 12) N 1 σ n = some ((N' : Int), σ', n) ∧ mx_Fq mx_Cd [(82, 35)] σ σ' ∧ mx_DU μ al D (σ' 138) N' ∧ ∀ j : Nat, j < 1920 → mx_clq μ al (σ' 138) j := by
  intro t
  induction t with
  | zero =>
    intro N σ hN h hal hU
    obtain ⟨σ1, N1, g1, a1, a2, a3⟩ := mo_closes_46_s (n := n) hg dp 1920 0 N 0 σ rfl h hal hU
    rw [show ((0 : Nat) : Int) = 0 from rfl] at a1
    have le := mx_cz_b (mx_on (σ1 138)) 1920
    have l2 := a3.1.1
    rcases a3.2 with ⟨q1, q2, q3, q4⟩ | ⟨q1, q2, -⟩
    · refine ⟨σ1, N1, ?_, a2, a3.1, fun j hj => by rw [q2]; exact q4 j (Nat.zero_le _) hj⟩
      rw [mo_closes_37_e, if_neg (by decide), a1, q1, mo_closes_37_e, if_pos rfl]
    · omega
  | succ t ih =>
    intro N σ hN h hal hU
    obtain ⟨σ1, N1, g1, a1, a2, a3⟩ := mo_closes_46_s (n := n) hg dp 1920 0 N 0 σ rfl h hal hU
    rw [show ((0 : Nat) : Int) = 0 from rfl] at a1
    rcases a3.2 with ⟨q1, q2, q3, q4⟩ | ⟨q1, q2, -⟩
    · refine ⟨σ1, N1, ?_, a2, a3.1, fun j hj => by rw [q2]; exact q4 j (Nat.zero_le _) hj⟩
      rw [mo_closes_37_e, if_neg (by decide), a1, q1, mo_closes_37_e, if_pos rfl]
    · obtain ⟨σ', N', b1, b2, b3, b4⟩ := ih N1 σ1 (by omega) (mx_rW_fr3 h a2) (by rw [mx_al_fr3 a2]; exact hal) a3.1
      refine ⟨σ', N', ?_, mx_fq_tr a2 b2, b3, b4⟩
      rw [mo_closes_37_e, if_neg (by decide), a1, q1]
      exact b1
theorem mo_closes_2_s (dp : Nat) : ∀ (t k : Nat) (σ : am_M), k + t = 1920 → (∀ j : Nat, j < k → σ 138 j = if j = D then 1 else 0) → ∃ σ' : am_M, mo_closes_2 dp D k σ n = mo_closes_37 dp 1 1 σ' n ∧ mx_Fq [138] [] σ σ' ∧ ∀ j : Nat, j < 1920 → σ' 138 j = if j = D then 1 else 0 := by
  intro t
  induction t with
  | zero =>
    intro k σ hk hj
    refine ⟨σ, by rw [mo_closes_2_e, if_neg (by omega)], mx_fq_rf, fun j h => hj j (by omega)⟩
  | succ t ih =>
    intro k σ hk hj
    have I : (0 : Int) ≤ (k : Int) ∧ (k : Int) < 1920 := ⟨by omega, by omega⟩
    have k1 : am_w ((k : Int) + 1) = ((k + 1 : Nat) : Int) := by rw [mx_w_id (by omega) (by omega)]; rfl
    have step : ∀ b : Int, b = (if k = D then 1 else 0) → ∃ σ' : am_M, mo_closes_2 dp D ((k + 1 : Nat) : Int) (am_wr σ 138 k b) n = mo_closes_37 dp 1 1 σ' n ∧ mx_Fq [138] [] σ σ' ∧ ∀ j : Nat, j < 1920 → σ' 138 j = if j = D then 1 else 0 := fun b hb => by
      obtain ⟨σ', p1, p2, p3⟩ := ih (k + 1) (am_wr σ 138 k b) (by clear k1; omega) (fun j h => by
        by_cases z : j = k
        · subst z; rw [mx_wr_at]; exact hb
        · rw [mx_wr_off z]; exact hj j (by clear k1; omega))
      exact ⟨σ', p1, mx_fq_tr (mx_fq_wr mx_fq_rf rfl) p2, p3⟩
    rw [mo_closes_2_e, if_pos I.2, ix_138 I.1 I.2, ix_138 I.1 I.2, mx_m, mx_m, k1, Int.toNat_natCast]
    clear k1
    by_cases q : k = D
    · rw [if_pos (by omega)]
      exact step (1 % 2) (by rw [if_pos q]; decide)
    · rw [if_neg (by omega)]
      exact step (0 % 2) (by rw [if_neg q]; decide)
/-- closes() -/
theorem mo_closes_s (hg : mx_gd μ) (dp : Nat) (hdd : mx_dd μ D) (h : mx_rW μ σ) (hal : σ 82 4 = al) :
    ∃ (σ' : am_M) (N : Nat), mo_closes (dp + 13) D σ n = some ((N : Int), σ', n) ∧ mx_Fq mx_Cd [(82, 35)] σ σ' ∧ mx_DU μ al D (σ' 138) N ∧ ∀ j : Nat, j < 1920 → mx_clq μ al (σ' 138) j := by
  have hd := mx_dd_lt hg hdd
  obtain ⟨σ1, a1, a2, a3⟩ := mo_closes_2_s (n := n) (D := D) (dp + 12) 1920 0 σ rfl (fun j hj => absurd hj (Nat.not_lt_zero _))
  have F1 : mx_Fq mx_Cd [(82, 35)] σ σ1 := mx_fq_up a2 rfl
  have U1 : mx_DU μ al D (σ1 138) 1 := by
    refine ⟨?_, fun x hx => ?_, fun x hx q => ?_, by rw [a3 D hd, if_pos rfl], fun T hc x hx q => ?_⟩
    · have u := mx_cz_up (P := fun _ => false) (Q := fun j => decide (j = D)) D rfl (decide_eq_true rfl) (fun j q => decide_eq_false q) 1920
      rw [if_pos hd, mx_cz_f 1920 (fun _ _ => rfl)] at u
      rw [mx_cz_eq (Q := fun j => decide (j = D)) 1920 (fun k hk => ?_), u]
      unfold mx_on
      rw [a3 k hk]
      by_cases q : k = D
      · rw [if_pos q, decide_eq_true q]; rfl
      · rw [if_neg q, decide_eq_false q]; rfl
    · rw [a3 x hx]
      split
      · exact Or.inr rfl
      · exact Or.inl rfl
    · rw [a3 x hx] at q
      by_cases y : x = D
      · rw [y]; exact hdd
      · rw [if_neg y] at q; exact absurd q (by decide)
    · rw [a3 x hx] at q
      by_cases y : x = D
      · rw [y]; exact hc.1
      · rw [if_neg y] at q; exact absurd q (by decide)
  obtain ⟨σ', N, b1, b2, b3, b4⟩ := mo_closes_37_s (n := n) hg dp 1920 1 σ1 (by decide) (mx_rW_fr3 h F1) (by rw [mx_al_fr3 F1]; exact hal) U1
  refine ⟨σ', N, ?_, mx_fq_tr F1 b2, b3, b4⟩
  rw [mo_closes_e]
  exact a1.trans b1
/-- both mark the same -/
theorem mx_cls_eq {f f' : Nat → Int} {N N' : Nat} (h : mx_DU μ al D f N) (hc : ∀ j : Nat, j < 1920 → mx_clq μ al f j) (h' : mx_DU μ al D f' N') (hc' : ∀ j : Nat, j < 1920 → mx_clq μ al f' j) (hg : mx_gd μ) (hdd : mx_dd μ D) : N = N' ∧ ∀ j : Nat, j < 1920 → f j = f' j := by
  have hd := mx_dd_lt hg hdd
  have key : ∀ {f f' : Nat → Int} {N N' : Nat}, mx_DU μ al D f N → (∀ j : Nat, j < 1920 → mx_clq μ al f j) → mx_DU μ al D f' N' → ∀ x : Nat, x < 1920 → f' x = 1 → f x = 1 := by
    intro f f' N N' h hc h' x hx q
    have c : mx_cls μ al D (fun y => f y = 1 ∧ y < 1920) := by
      refine ⟨⟨h.2.2.2.1, hd⟩, fun d hd1 hdd1 w hw => ?_⟩
      have m := hc d hd1.2 hd1.1 w hw
      have ok := mx_wl_ok hg hdd1 hw
      have one : ∀ v, mx_vk μ v → mx_mk f v → v = -1 ∨ (f v.toNat = 1 ∧ v.toNat < 1920) := fun v hv hm => by
        rcases hm with p | p
        · exact Or.inl p
        · rcases hv with r | ⟨j, r1, r2, -⟩
          · exact Or.inl r
          · exact Or.inr ⟨p, by rw [r1, Int.toNat_natCast]; exact r2⟩
      exact ⟨one _ ok.1 m.1, one _ ok.2.1 m.2⟩
    exact (h'.2.2.2.2 _ c x hx q).1
  have same : ∀ j : Nat, j < 1920 → f j = f' j := fun j hj => by
    rcases h.2.1 j hj with p | p <;> rcases h'.2.1 j hj with q | q
    · rw [p, q]
    · have := key h hc h' j hj q; omega
    · have := key h' hc' h j hj p; omega
    · rw [p, q]
  refine ⟨?_, same⟩
  rw [h.1, h'.1]
  exact mx_cz_eq 1920 (fun k hk => by unfold mx_on; rw [same k hk])
end
