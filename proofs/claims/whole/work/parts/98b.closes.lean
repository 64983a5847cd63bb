section
variable {n : Nat} {μ σ : am_M} {al : Int} {D : Nat}
def mx_DU (μ : am_M) (al : Int) (D : Nat) (f : Nat → Int) (N : Nat) : Prop := N = mx_cz (mx_on f) 1920 ∧ (∀ x : Nat, x < 1920 → f x = 0 ∨ f x = 1) ∧ (∀ x : Nat, x < 1920 → f x = 1 → mx_dd μ x) ∧ f D = 1 ∧ ∀ T : Nat → Prop, mx_cls μ al D T → ∀ x : Nat, x < 1920 → f x = 1 → T x
def mx_qs (μ : am_M) (al : Int) (D : Nat) (f f' : Nat → Int) (N N' : Nat) (g g' : Int) (Q : Prop) : Prop := mx_DU μ al D f' N' ∧ ((g' = g ∧ f' = f ∧ N' = N ∧ Q) ∨ (g' = 1 ∧ N < N' ∧ ∀ x, f x = 1 → f' x = 1))
theorem mx_qs_tr {f f1 f2 : Nat → Int} {N N1 N2 : Nat} {g g1 g2 : Int} {Q1 Q2 Q : Prop} (h1 : mx_qs μ al D f f1 N N1 g g1 Q1) (h2 : mx_qs μ al D f1 f2 N1 N2 g1 g2 Q2) (hQ : f1 = f → Q1 → Q2 → Q) : mx_qs μ al D f f2 N N2 g g2 Q := by
  refine ⟨h2.1, ?_⟩
  rcases h1.2 with ⟨a1, a2, a3, a4⟩ | ⟨a1, a2, a3⟩
  · rcases h2.2 with ⟨b1, b2, b3, b4⟩ | ⟨b1, b2, b3⟩
    · exact Or.inl ⟨b1.trans a1, b2.trans a2, b3.trans a3, hQ a2 a4 b4⟩
    · rw [a3] at b2; rw [a2] at b3; exact Or.inr ⟨b1, b2, b3⟩
  · rcases h2.2 with ⟨b1, b2, b3, b4⟩ | ⟨b1, b2, b3⟩
    · rw [b2, b3]; exact Or.inr ⟨b1.trans a1, a2, a3⟩
    · exact Or.inr ⟨b1, Nat.lt_trans a2 b2, fun x q => b3 x (a3 x q)⟩
def mx_mk (f : Nat → Int) (v : Int) : Prop := v = -1 ∨ f v.toNat = 1
theorem mo_closes_118_s (d k i v6 : Nat) (hv6 : v6 < 10) {v : Int} (hv : mx_vk μ v) (hT : ∀ T : Nat → Prop, mx_cls μ al D T → v = -1 ∨ T v.toNat) {N : Nat} {g : Int} {σ : am_M} (h : mx_DU μ al D (σ 138) N) :
    ∃ (σ' : am_M) (N' : Nat) (g' : Int), mo_closes_118 d N g k i v6 v σ n = mo_closes_90 d N' g' k i ((v6 + 1 : Nat) : Int) σ' n ∧ mx_Fq [138] [] σ σ' ∧ mx_qs μ al D (σ 138) (σ' 138) N N' g g' (mx_mk (σ 138) v) := by
  obtain ⟨h1, h2, h3, h4, h5⟩ := h
  have w6 : am_w ((v6 : Int) + 1) = ((v6 + 1 : Nat) : Int) := mx_w_nat (by omega)
  rw [mo_closes_118_e, w6]
  clear w6
  rcases hv with q | ⟨j, q1, q2, q3⟩
  · exact ⟨σ, N, g, by rw [if_pos q], mx_fq_rf, ⟨h1, h2, h3, h4, h5⟩, Or.inl ⟨rfl, rfl, rfl, Or.inl q⟩⟩
  · have nv : ¬ v = -1 := by omega
    have J : (0 : Int) ≤ (j : Int) ∧ (j : Int) < 1920 := ⟨by omega, by omega⟩
    rw [if_neg nv, q1, ix_138 J.1 J.2, ix_138 J.1 J.2, mx_m, Int.toNat_natCast]
    by_cases z : σ 138 j = 0
    · have fj : mx_on (σ 138) j = false := decide_eq_false (by omega)
      have lt := mx_cz_bl fj q2
      have wN : am_w ((N : Int) + 1) = ((N + 1 : Nat) : Int) := by rw [mx_w_id (by omega) (by omega)]; rfl
      rw [if_pos z, wN, show (1 : Int) % 2 = 1 by decide]
      clear wN
      have f138 : ∀ x, (am_wr σ 138 j 1) 138 x = if x = j then 1 else σ 138 x := fun x => by
        by_cases y : x = j
        · rw [if_pos y, y, mx_wr_at]
        · rw [if_neg y, mx_wr_off y]
      have up : ∀ x, σ 138 x = 1 → (am_wr σ 138 j 1) 138 x = 1 := fun x q => by
        rw [f138]
        split
        · rfl
        · exact q
      refine ⟨am_wr σ 138 j 1, N + 1, 1, rfl, mx_fq_wr mx_fq_rf rfl, ⟨?_, fun x hx => ?_, fun x hx hm => ?_, up D h4, fun T hc x hx hm => ?_⟩, Or.inr ⟨rfl, Nat.lt_succ_self _, up⟩⟩
      · have u := mx_cz_up (P := mx_on (σ 138)) (Q := mx_on ((am_wr σ 138 j 1) 138)) j fj (by unfold mx_on; rw [f138, if_pos rfl]; rfl) (fun y q => by unfold mx_on; rw [f138, if_neg q]) 1920
        rw [if_pos q2] at u
        omega
      · rw [f138]
        split
        · exact Or.inr rfl
        · exact h2 x hx
      · by_cases y : x = j
        · rw [y]; exact q3
        · rw [f138, if_neg y] at hm
          exact h3 x hx hm
      · by_cases y : x = j
        · rcases hT T hc with p | p
          · exact absurd p nv
          · rw [q1, Int.toNat_natCast] at p
            rw [y]; exact p
        · rw [f138, if_neg y] at hm
          exact h5 T hc x hx hm
    · rw [if_neg z]
      have one : σ 138 j = 1 := by rcases h2 j q2 with p | p; exact absurd p z; exact p
      exact ⟨σ, N, g, rfl, mx_fq_rf, ⟨h1, h2, h3, h4, h5⟩, Or.inl ⟨rfl, rfl, rfl, Or.inr one⟩⟩
/-- the ways of a demand -/
theorem mo_closes_78_s (hg : mx_gd μ) (d k : Nat) (hdd : mx_dd μ k) (W : List mx_wt) (hWl : W = mx_wl μ al k) (hL : W.length ≤ 386) : ∀ (t i N : Nat) (g : Int) (σ : am_M), i + t = W.length → mx_LW σ W → mx_DU μ al D (σ 138) N → σ 138 k = 1 →
    ∃ (σ' : am_M) (N' : Nat) (g' : Int), mo_closes_78 d N g k i σ n = mo_closes_46 d N' g' (am_w ((k : Int) + 1)) σ' n ∧ mx_Fq [138] [] σ σ' ∧ mx_qs μ al D (σ 138) (σ' 138) N N' g g' (∀ (j : Nat) (w : mx_wt), i ≤ j → W[j]? = some w → mx_mk (σ 138) w.2.2.1 ∧ mx_mk (σ 138) w.2.2.2.1) := by
  have kl := mx_dd_lt hg hdd
  intro t
  induction t with
  | zero =>
    intro i N g σ hi hW hU hk
    refine ⟨σ, N, g, by rw [mo_closes_78_e, hW.1, if_neg (by omega)], mx_fq_rf, hU, Or.inl ⟨rfl, rfl, rfl, fun j w h1 h2 => ?_⟩⟩
    have := (List.getElem?_eq_some_iff.mp h2).1
    omega
  | succ t ih =>
    intro i N g σ hi hW hU hk
    have hlt : i < W.length := by omega
    obtain ⟨w, hw⟩ : ∃ w, W[i]? = some w := ⟨W[i], List.getElem?_eq_getElem hlt⟩
    have hm : w ∈ mx_wl μ al k := by rw [← hWl]; exact List.mem_of_getElem? hw
    have ok := mx_wl_ok hg hdd hm
    have i1k : (i : Int) < 1000 := by omega
    have ilt : (i : Int) < (W.length : Int) := by omega
    have I : (0 : Int) ≤ (i : Int) ∧ (i : Int) < 400 := ⟨by omega, by omega⟩
    obtain ⟨-, -, e3, e4, -, -⟩ := hW.2 i w hw
    have hT : ∀ T : Nat → Prop, mx_cls μ al D T → (w.2.2.1 = -1 ∨ T w.2.2.1.toNat) ∧ (w.2.2.2.1 = -1 ∨ T w.2.2.2.1.toNat) := fun T hc => hc.2 k (hU.2.2.2.2 T hc k kl hk) hdd w hm
    obtain ⟨σ1, N1, g1, a1, a2, a3⟩ := mo_closes_118_s (n := n) d k i 0 (by decide) ok.1 (fun T hc => (hT T hc).1) (g := g) hU
    have c1 : ∀ x, x ≠ 138 → σ1 x = σ x := fun x q => funext fun y => a2 x y (by simp only [List.mem_cons, List.not_mem_nil, or_false]; exact q) (by simp)
    obtain ⟨σ2, N2, g2, b1, b2, b3⟩ := mo_closes_118_s (n := n) d k i 1 (by decide) ok.2.1 (fun T hc => (hT T hc).2) (g := g1) a3.1
    have c2 : ∀ x, x ≠ 138 → σ2 x = σ1 x := fun x q => funext fun y => b2 x y (by simp only [List.mem_cons, List.not_mem_nil, or_false]; exact q) (by simp)
    have L2 : mx_LW σ2 W := mx_LW_fr hW (fun x p q => by rw [c2 x (by omega), c1 x (by omega)]) (by rw [c2 82 (by decide), c1 82 (by decide)])
    have k1 : σ1 138 k = 1 := by rcases a3.2 with ⟨-, q, -, -⟩ | ⟨-, -, q⟩; rw [q]; exact hk; exact q k hk
    have k2 : σ2 138 k = 1 := by rcases b3.2 with ⟨-, q, -, -⟩ | ⟨-, -, q⟩; rw [q]; exact k1; exact q k k1
    obtain ⟨σ', N', g', f1, f2, f3⟩ := ih (i + 1) N2 g2 σ2 (by omega) L2 b3.1 k2
    refine ⟨σ', N', g', ?_, mx_fq_tr a2 (mx_fq_tr b2 f2), mx_qs_tr a3 (mx_qs_tr b3 f3 (Q := mx_mk (σ1 138) w.2.2.2.1 ∧ ∀ (j : Nat) (w : mx_wt), i + 1 ≤ j → W[j]? = some w → mx_mk (σ1 138) w.2.2.1 ∧ mx_mk (σ1 138) w.2.2.2.1) (fun q x y => ⟨x, by rw [q] at y; exact y⟩)) (fun q x y j v h1 h2 => ?_)⟩
    · rw [mo_closes_78_e, hW.1, if_pos ilt, mo_closes_90_e, if_pos (by decide), if_pos rfl, ix_111 I.1 I.2, Int.toNat_natCast, e3]
      rw [show ((0 : Nat) : Int) = 0 from rfl] at a1
      rw [a1, mo_closes_90_e, if_pos (by decide), if_neg (by decide), ix_112 I.1 I.2, Int.toNat_natCast, c1 112 (by decide), e4, show ((0 + 1 : Nat) : Int) = ((1 : Nat) : Int) from rfl, b1, mo_closes_90_e, if_neg (by decide), mx_w_nat i1k]
      exact f1
    · rw [q] at y
      by_cases z : j = i
      · subst z
        rw [hw] at h2
        cases h2
        exact ⟨x, y.1⟩
      · exact y.2 j v (by omega) h2
end
