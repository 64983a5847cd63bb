section
variable {n : Nat} {μ : am_M} {al : Int}
theorem mo_costs_30_s (hg : mx_gd μ) (dp : Nat) : ∀ (N : Nat) (σ : am_M), mx_tot (σ 107) 1920 ≤ N → mx_rW μ σ → σ 82 4 = al → mx_cI μ al (σ 107) →
    ∃ σ' : am_M, mo_costs_30 (dp + 12) 1 σ n = some (0, σ', n) ∧ mx_Fq mx_Cc [(82, 35)] σ σ' ∧ mx_cI μ al (σ' 107) ∧ ∀ d, mx_dd μ d → ∀ w ∈ mx_wl μ al d, σ' 107 d ≤ mx_s1 (σ' 107) w := by
  have wg := hg.1.2.1
  intro N
  induction N with
  | zero =>
    intro σ hN h hal hI
    obtain ⟨σ', g', p1, p2, p3, p4⟩ := mo_costs_38_s (n := n) hg dp (μ 2 9 * 30).toNat 0 0 σ (by omega) h hal hI
    rcases p4 with ⟨q1, q2, q3⟩ | ⟨-, -, q3⟩
    · refine ⟨σ', ?_, p2, p3, fun d hd w hw => ?_⟩
      · rw [mo_costs_30_e, if_neg (by decide)]
        rw [show ((0 : Nat) : Int) = 0 from rfl] at p1
        rw [p1, q1, mo_costs_30_e, if_pos rfl]
      · rw [q2]; exact q3 d (Nat.zero_le _) hd w hw
    · omega
  | succ N ih =>
    intro σ hN h hal hI
    obtain ⟨σ', g', p1, p2, p3, p4⟩ := mo_costs_38_s (n := n) hg dp (μ 2 9 * 30).toNat 0 0 σ (by omega) h hal hI
    rw [show ((0 : Nat) : Int) = 0 from rfl] at p1
    rcases p4 with ⟨q1, q2, q3⟩ | ⟨q1, q2, q3⟩
    · refine ⟨σ', ?_, p2, p3, fun d hd w hw => ?_⟩
      · rw [mo_costs_30_e, if_neg (by decide), p1, q1, mo_costs_30_e, if_pos rfl]
      · rw [q2]; exact q3 d (Nat.zero_le _) hd w hw
    · obtain ⟨σ2, r1, r2, r3, r4⟩ := ih σ' (by omega) (mx_rW_fr2 h p2) (by rw [mx_al_fr2 p2]; exact hal) p3
      refine ⟨σ2, ?_, mx_fq_tr p2 r2, r3, r4⟩
      rw [mo_costs_30_e, if_neg (by decide), p1, q1]
      exact r1
theorem mo_costs_6_s (dp : Nat) : ∀ (t k : Nat) (σ : am_M), k + t = 1920 → (∀ j : Nat, j < k → σ 107 j = 4000000000000) → ∃ σ' : am_M, mo_costs_6 dp k σ n = mo_costs_30 dp 1 σ' n ∧ mx_Fq [107] [] σ σ' ∧ ∀ j : Nat, j < 1920 → σ' 107 j = 4000000000000 := by
  intro t
  induction t with
  | zero =>
    intro k σ hk hj
    refine ⟨σ, by rw [mo_costs_6_e, if_neg (by omega)], mx_fq_rf, fun j h => hj j (by omega)⟩
  | succ t ih =>
    intro k σ hk hj
    have I : (0 : Int) ≤ (k : Int) ∧ (k : Int) < 1920 := ⟨by omega, by omega⟩
    have k1 : am_w ((k : Int) + 1) = ((k + 1 : Nat) : Int) := by rw [mx_w_id (by omega) (by omega)]; rfl
    rw [mo_costs_6_e, if_pos I.2, ix_107 I.1 I.2, mx_m, k1, Int.toNat_natCast]
    clear k1
    obtain ⟨σ', p1, p2, p3⟩ := ih (k + 1) (am_wr σ 107 k 4000000000000) (by omega) (fun j h => by
      by_cases z : j = k
      · subst z; exact mx_wr_at
      · rw [mx_wr_off z]; exact hj j (by omega))
    exact ⟨σ', p1, mx_fq_tr (mx_fq_wr mx_fq_rf rfl) p2, p3⟩
abbrev mx_Ck : List Nat := [104, 105, 106, 107, 109, 110, 111, 112, 113, 114]
theorem mo_tells_r (hg : mx_gd μ) {σ : am_M} (h : mx_rl μ σ) (dp : Nat) : ∃ τ : am_M, mo_tells (dp + 2) σ n = some (0, τ, n) ∧ mx_Fq [104, 105, 106] [] σ τ ∧ mx_rW μ τ := by
  obtain ⟨τ, p1, p2, p3⟩ := mo_tells_s hg.1 h.1 h.2 dp n
  have F := mx_fq_of p2
  refine ⟨τ, p1, F, mx_rl_fr h (fun i j a b => by rw [p2 i (by simp only [List.mem_cons, List.not_mem_nil, or_false, not_or]; omega)]) (fun j _ => by rw [p2 82 (by decide)]), fun i hi hT => ?_⟩
  have := p3 i hi hT
  exact ⟨this.1, this.2.1⟩
/-- costs() of the reference -/
theorem mo_costs_s (hg : mx_gd μ) {σ : am_M} (h : mx_rl μ σ) (hal : σ 82 4 = al) (dp : Nat) : ∃ σ' : am_M, mo_costs (dp + 13) σ n = some (0, σ', n) ∧ mx_Fq mx_Ck [(82, 35)] σ σ' ∧ mx_rW μ σ' ∧ mx_cI μ al (σ' 107) ∧ mx_sol μ al (mx_cap (σ' 107)) := by
  obtain ⟨σ1, a1, a2, a3⟩ := mo_tells_r (n := n) hg h (dp + 10)
  obtain ⟨σ2, b1, b2, b3⟩ := mo_costs_6_s (n := n) (dp + 12) 1920 0 σ1 rfl (fun j hj => absurd hj (Nat.not_lt_zero _))
  have F12 : mx_Fq mx_Cc [(82, 35)] σ1 σ2 := mx_fq_up b2 rfl
  have h2 := mx_rW_fr2 a3 F12
  have al2 : σ2 82 4 = al := by rw [mx_al_fr2 F12, a2 82 4 (by decide) (by decide)]; exact hal
  obtain ⟨σ3, c1, c2, c3, c4⟩ := mo_costs_30_s (n := n) hg dp _ σ2 (Nat.le_refl _) h2 al2 (fun d hd => Or.inl (b3 d hd))
  refine ⟨σ3, ?_, mx_fq_tr (mx_fq_up a2 rfl) (mx_fq_tr (mx_fq_up F12 rfl) (mx_fq_up c2 rfl)), mx_rW_fr2 h2 c2, c3, mx_cap_sol hg c3 c4⟩
  rw [mo_costs_e, show mo_tells (dp + 12) σ n = _ from a1, Option.bind_some]
  exact b1.trans c1
theorem mx_sol_ex (hg : mx_gd μ) {σ : am_M} (h : mx_rl μ σ) (al : Int) : ∃ c, mx_sol μ al c := by
  have F : mx_Fq [] [(82, 4)] σ (am_wr σ 82 4 al) := mx_fq_wr mx_fq_rf rfl
  have h2 : mx_rl μ (am_wr σ 82 4 al) := mx_rl_fr h (fun i j a b => F i j (by simp) (by simp; omega)) (fun j hj => F 82 j (by simp) (by simp; omega))
  obtain ⟨σ', -, -, -, -, p⟩ := mo_costs_s (n := 0) hg h2 (al := al) mx_wr_at 0
  exact ⟨_, p⟩
end
