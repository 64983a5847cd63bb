/-! DEMANDS that are demanded -/
section
variable {n : Nat} {μ σ : am_M} {al : Int} {D : Nat}
/-- holds D and all that is demanded by what it holds -/
def mx_cls (μ : am_M) (al : Int) (D : Nat) (T : Nat → Prop) : Prop := T D ∧ ∀ d : Nat, T d → mx_dd μ d → ∀ w ∈ mx_wl μ al d, (w.2.2.1 = -1 ∨ T w.2.2.1.toNat) ∧ (w.2.2.2.1 = -1 ∨ T w.2.2.2.1.toNat)
def mx_on (f : Nat → Int) (x : Nat) : Bool := decide (f x = 1)
theorem mx_cz_up {P Q : Nat → Bool} (x : Nat) (h1 : P x = false) (h2 : Q x = true) (h3 : ∀ j, j ≠ x → Q j = P j) : ∀ K, mx_cz Q K = mx_cz P K + if x < K then 1 else 0 := by
  intro K
  induction K with
  | zero => rfl
  | succ K ih =>
    show mx_cz Q K + (if Q K = true then 1 else 0) = mx_cz P K + (if P K = true then 1 else 0) + _
    rw [ih]
    by_cases z : x = K
    · subst z
      rw [h1, h2, if_pos rfl, if_neg (Nat.lt_irrefl x), if_pos (Nat.lt_succ_self x)]; rfl
    · rw [h3 K (fun q => z q.symm)]
      by_cases y : x < K
      · rw [if_pos y, if_pos (show x < K + 1 by omega)]; omega
      · rw [if_neg y, if_neg (show ¬ x < K + 1 by omega)]; omega
theorem mx_cz_all : ∀ K, mx_cz (fun _ => true) K = K := by
  intro K
  induction K with
  | zero => rfl
  | succ K ih =>
    show mx_cz (fun _ => true) K + (if true = true then 1 else 0) = K + 1
    rw [ih, if_pos rfl]
theorem mx_cz_bl {P : Nat → Bool} {x K : Nat} (h : P x = false) (hx : x < K) : mx_cz P K < K := by
  have := mx_cz_lt (P := fun _ => true) (Q := P) x rfl h K hx (fun _ _ _ => rfl)
  rw [mx_cz_all] at this
  exact this
theorem mx_cz_eq {P Q : Nat → Bool} : ∀ K, (∀ k, k < K → P k = Q k) → mx_cz P K = mx_cz Q K := by
  intro K
  induction K with
  | zero => intro _; rfl
  | succ K ih =>
    intro h
    show mx_cz P K + (if P K = true then 1 else 0) = mx_cz Q K + (if Q K = true then 1 else 0)
    rw [ih (fun k hk => h k (by omega)), h K (Nat.lt_succ_self _)]
/-- demands are being marked: N of them; the ways of the first i are told -/
def mx_MU (μ σ : am_M) (D N i : Nat) : Prop := mx_Fq [35, 36] mx_P38 μ σ ∧ σ 33 5 = N ∧ N = mx_cz (mx_on (σ 36)) 1920 ∧ (∀ x : Nat, x < 1920 → σ 36 x = 0 ∨ σ 36 x = 1) ∧
  (∀ k, k < N → ∃ x : Nat, σ 35 k = x ∧ mx_dd μ x ∧ σ 36 x = 1) ∧ (∀ x : Nat, x < 1920 → σ 36 x = 1 → ∃ k, k < N ∧ σ 35 k = x) ∧
  (∀ k, k < i → ∀ x : Nat, σ 35 k = x → ∀ w ∈ mx_wl μ (μ 37 5) x, (w.2.2.1 = -1 ∨ σ 36 w.2.2.1.toNat = 1) ∧ (w.2.2.2.1 = -1 ∨ σ 36 w.2.2.2.1.toNat = 1)) ∧
  ∀ T : Nat → Prop, mx_cls μ (μ 37 5) D T → ∀ x : Nat, x < 1920 → σ 36 x = 1 → T x
def mx_MS (σ σ' : am_M) (N N' : Nat) : Prop := N ≤ N' ∧ (∀ x, σ 36 x = 1 → σ' 36 x = 1) ∧ ∀ k, k < N → σ' 35 k = σ 35 k
theorem mx_MS_tr {σ1 σ2 σ3 : am_M} {N1 N2 N3 : Nat} (h : mx_MS σ1 σ2 N1 N2) (h' : mx_MS σ2 σ3 N2 N3) : mx_MS σ1 σ3 N1 N3 :=
  ⟨Nat.le_trans h.1 h'.1, fun u q => h'.2.1 u (h.2.1 u q), fun k q => (h'.2.2 k (Nat.lt_of_lt_of_le q h.1)).trans (h.2.2 k q)⟩
theorem mx_MS_rf {σ : am_M} {N : Nat} : mx_MS σ σ N N := ⟨Nat.le_refl _, fun _ h => h, fun _ _ => rfl⟩
theorem co_listIfUnmarked_s (hg : mx_gd μ) (d : Nat) {v : Int} (hv : mx_vk μ v) {N i : Nat} (hi : i ≤ N) (h : mx_MU μ σ D N i) (hT : ∀ T : Nat → Prop, mx_cls μ (μ 37 5) D T → v = -1 ∨ T v.toNat) :
    ∃ (σ' : am_M) (N' : Nat), co_listIfUnmarked (d + 1) v σ n = some (0, σ', n) ∧ mx_Fq [35, 36] [(33, 5)] σ σ' ∧ mx_MU μ σ' D N' i ∧ (v = -1 ∨ σ' 36 v.toNat = 1) ∧ mx_MS σ σ' N N' := by
  have h0 := h
  obtain ⟨h1, h2, h3, h4, h5, h6, h7, h8⟩ := h
  rw [co_listIfUnmarked_e]
  rcases hv with q | ⟨j, q1, q2, q3⟩
  · exact ⟨σ, N, by rw [if_pos q], mx_fq_rf, h0, Or.inl q, mx_MS_rf⟩
  · have nv : ¬ v = -1 := by omega
    have J : (0 : Int) ≤ (j : Int) ∧ (j : Int) < 1920 := ⟨by omega, by omega⟩
    rw [if_neg nv, q1, ix_36 J.1 J.2, ix_36 J.1 J.2, Int.toNat_natCast]
    by_cases z : σ 36 j = 0
    · have fj : mx_on (σ 36) j = false := decide_eq_false (by omega)
      have lt := mx_cz_bl fj q2
      have Nn : (0 : Int) ≤ (N : Int) ∧ (N : Int) < 1920 := ⟨by omega, by omega⟩
      have wN : am_w ((N : Int) + 1) = ((N + 1 : Nat) : Int) := by rw [mx_w_id (by omega) (by omega)]; rfl
      rw [if_pos z, h2, if_pos Nn.2, mx_m, show am_w8 1 = 1 by decide]
      obtain ⟨σ1, e1⟩ : ∃ σ1, σ1 = am_wr (am_wr σ 36 j 1) 35 N j := ⟨_, rfl⟩
      have c33 : (am_wr σ 36 j 1) 33 5 = N := by rw [mx_wr_ne (by decide)]; exact h2
      have d33 : σ1 33 5 = N := by rw [e1, mx_wr_ne (by decide)]; exact c33
      rw [c33, ix_35 Nn.1 Nn.2, mx_m, Int.toNat_natCast, ← e1, mx_m, d33, wN]
      obtain ⟨σ', e2⟩ : ∃ σ', σ' = am_wr σ1 33 5 ((N + 1 : Nat) : Int) := ⟨_, rfl⟩
      rw [← e2]
      clear wN
      have F : mx_Fq [35, 36] [(33, 5)] σ σ' := by rw [e2, e1]; exact mx_fq_wr (mx_fq_wr (mx_fq_wr mx_fq_rf rfl) rfl) rfl
      have f36 : ∀ x, σ' 36 x = if x = j then 1 else σ 36 x := fun x => by
        rw [e2, mx_wr_ne (by decide), e1, mx_wr_ne (by decide)]
        by_cases y : x = j
        · rw [if_pos y, y, mx_wr_at]
        · rw [if_neg y, mx_wr_off y]
      have f35 : ∀ k, σ' 35 k = if k = N then (j : Int) else σ 35 k := fun k => by
        rw [e2, mx_wr_ne (by decide), e1]
        by_cases y : k = N
        · rw [if_pos y, y, mx_wr_at]
        · rw [if_neg y, mx_wr_off y, mx_wr_ne (by decide)]
      have k35 : ∀ k, k < N → σ' 35 k = σ 35 k := fun k q => by rw [f35, if_neg (by omega)]
      have up : ∀ x, σ 36 x = 1 → σ' 36 x = 1 := fun x q => by
        rw [f36]
        split
        · rfl
        · exact q
      refine ⟨σ', N + 1, rfl, F, ⟨mx_fq_tr h1 (mx_fq_up F rfl), by rw [e2, mx_wr_at], ?_, ?_, ?_, ?_, ?_, ?_⟩, ?_, Nat.le_succ _, up, k35⟩
      · have u := mx_cz_up (P := mx_on (σ 36)) (Q := mx_on (σ' 36)) j fj (by unfold mx_on; rw [f36, if_pos rfl]; rfl) (fun y q => by unfold mx_on; rw [f36, if_neg q]) 1920
        rw [if_pos q2] at u
        omega
      · intro x hx
        rw [f36]
        split
        · exact Or.inr rfl
        · exact h4 x hx
      · intro k hk
        by_cases y : k = N
        · exact ⟨j, by rw [f35, if_pos y], q3, by rw [f36, if_pos rfl]⟩
        · obtain ⟨x, x1, x2, x3⟩ := h5 k (by omega)
          exact ⟨x, by rw [k35 k (by omega)]; exact x1, x2, up x x3⟩
      · intro x hx hm
        by_cases y : x = j
        · exact ⟨N, Nat.lt_succ_self _, by rw [f35, if_pos rfl, y]⟩
        · rw [f36, if_neg y] at hm
          obtain ⟨k, p1, p2⟩ := h6 x hx hm
          exact ⟨k, by omega, by rw [k35 k p1]; exact p2⟩
      · intro k hk x hx w hw
        rw [k35 k (by omega)] at hx
        have := h7 k hk x hx w hw
        exact ⟨this.1.imp id (up _), this.2.imp id (up _)⟩
      · intro T hclo x hx hm
        by_cases y : x = j
        · rcases hT T hclo with p | p
          · exact absurd p nv
          · rw [q1, Int.toNat_natCast] at p
            rw [y]; exact p
        · rw [f36, if_neg y] at hm
          exact h8 T hclo x hx hm
      · right
        rw [f36, if_pos rfl]
    · rw [if_neg z]
      have one : σ 36 j = 1 := by rcases h4 j q2 with p | p; exact absurd p z; exact p
      exact ⟨σ, N, rfl, mx_fq_rf, h0, Or.inr one, mx_MS_rf⟩
theorem mx_MU_up {σ' : am_M} {N i : Nat} (h : mx_MU μ σ D N i) (hF : mx_Fq [] mx_P37 σ σ') : mx_MU μ σ' D N i ∧ mx_MS σ σ' N N := by
  have c36 : σ' 36 = σ 36 := funext fun j => hF 36 j (by simp) (by unfold mx_P37; simp)
  have c35 : σ' 35 = σ 35 := funext fun j => hF 35 j (by simp) (by unfold mx_P37; simp)
  have c33 : σ' 33 5 = σ 33 5 := hF 33 5 (by simp) (by unfold mx_P37; decide)
  obtain ⟨h1, h2, h3, h4, h5, h6, h7, h8⟩ := h
  refine ⟨⟨mx_fq_tr h1 (mx_fq_up hF rfl), by rw [c33]; exact h2, by rw [c36]; exact h3, by rw [c36]; exact h4, by rw [c35, c36]; exact h5, by rw [c35, c36]; exact h6, by rw [c35, c36]; exact h7, by rw [c36]; exact h8⟩, Nat.le_refl _, fun u q => by rw [c36]; exact q, fun k _ => by rw [c35]⟩
theorem mx_MU_g (hg : mx_gd μ) (hP : mx_Pv μ) {N i : Nat} (h : mx_MU μ σ D N i) : mx_gd σ ∧ mx_Pv σ ∧ (∀ al d, mx_wl σ al d = mx_wl μ al d) ∧ (∀ d, mx_dd σ d ↔ mx_dd μ d) ∧ σ 37 5 = μ 37 5 := mx_cf (mx_fq_up h.1 rfl) hg hP
theorem co_demandedBy_50_s (hg : mx_gd μ) (hP : mx_Pv μ) (dp d i : Nat) (hdd : mx_dd μ d) : ∀ (R : List mx_wt) (M j N : Nat) (σ : am_M), j + R.length < 1000 → M < 900 → i < N → mx_MU μ σ D N i → mx_ws σ d R M → (∀ w ∈ R, mx_wok μ w ∧ ∀ T : Nat → Prop, mx_cls μ (μ 37 5) D T → (w.2.2.1 = -1 ∨ T w.2.2.1.toNat) ∧ (w.2.2.2.1 = -1 ∨ T w.2.2.2.1.toNat)) →
    ∃ (σ' : am_M) (N' : Nat), co_demandedBy_50 (dp + 5) i j σ n = co_demandedBy_20 (dp + 5) (am_w ((i : Int) + 1)) σ' n ∧ mx_MU μ σ' D N' i ∧ mx_MS σ σ' N N' ∧ ∀ w ∈ R, (w.2.2.1 = -1 ∨ σ' 36 w.2.2.1.toNat = 1) ∧ (w.2.2.2.1 = -1 ∨ σ' 36 w.2.2.2.1.toNat = 1) := by
  have hd := mx_dd_lt hg hdd
  intro R
  induction R with
  | nil =>
    intro M j N σ hj hM hi hL hw hk
    have j1k : (j : Int) < 1000 := by rw [List.length_nil] at hj; omega
    obtain ⟨g1, g2, -, g4, -⟩ := mx_MU_g hg hP hL
    rcases wa_advance_s (n := n) g1 g2 hd ((g4 d).mpr hdd) hM hw dp with ⟨-, σ', p1, p2⟩ | ⟨w, R', σ', M', q, -⟩
    · obtain ⟨u1, u2⟩ := mx_MU_up hL p2
      refine ⟨σ', N, ?_, u1, u2, fun w h => by cases h⟩
      rw [co_demandedBy_50_e, if_pos j1k, p1, Option.bind_some]
      rfl
    · cases q
  | cons w R ih =>
    intro M j N σ hj hM hi hL hw hk
    have j1k : (j : Int) < 1000 := by rw [List.length_cons] at hj; omega
    obtain ⟨g1, g2, -, g4, -⟩ := mx_MU_g hg hP hL
    rcases wa_advance_s (n := n) g1 g2 hd ((g4 d).mpr hdd) hM hw dp with ⟨q, -⟩ | ⟨w', R', σ1, M', q, p1, p2, p3, p4, p5, -⟩
    · cases q
    · cases q
      obtain ⟨u1, u2⟩ := mx_MU_up hL p2
      obtain ⟨ok, okT⟩ := hk w List.mem_cons_self
      obtain ⟨σ2, N2, a1, a2, a3, a4, a5⟩ := co_listIfUnmarked_s (n := n) hg (dp + 4) ok.1 (Nat.le_of_lt hi) u1 (fun T hc => (okT T hc).1)
      have t14 : σ2 37 14 = w.2.2.2.1 := by rw [a2 37 14 (by decide) (by decide)]; exact p5.2.2.1
      obtain ⟨σ3, N3, b1, b2, b3, b4, b5⟩ := co_listIfUnmarked_s (n := n) hg (dp + 4) ok.2.1 (by have := a5.1; omega) a3 (fun T hc => (okT T hc).2)
      have w3 : mx_ws σ3 d R M' := mx_ws_fr (mx_fq_tr a2 b2) rfl p3
      obtain ⟨σ', N', e1, e2, e3, e4⟩ := ih M' (j + 1) N3 σ3 (by rw [List.length_cons] at hj; omega) (by omega) (by have := a5.1; have := b5.1; omega) b3 w3 (fun x hx => hk x (List.mem_cons_of_mem _ hx))
      refine ⟨σ', N', ?_, e2, mx_MS_tr u2 (mx_MS_tr a5 (mx_MS_tr b5 e3)), fun x hx => ?_⟩
      · rw [co_demandedBy_50_e, if_pos j1k, p1, Option.bind_some]
        dsimp only
        rw [if_neg (by decide), p5.2.1, a1, Option.bind_some]
        dsimp only
        rw [t14, b1, Option.bind_some, mx_w_nat j1k]
        exact e1
      · rcases List.mem_cons.mp hx with q | q
        · rw [q]
          exact ⟨a4.imp id (fun y => e3.2.1 _ (b5.2.1 _ y)), b4.imp id (e3.2.1 _)⟩
        · exact e4 x q
theorem co_demandedBy_20_s (hg : mx_gd μ) (hP : mx_Pv μ) (dp : Nat) : ∀ (t i N : Nat) (σ : am_M), i + t = 1920 → i ≤ N → mx_MU μ σ D N i →
    ∃ (σ' : am_M) (N' : Nat), co_demandedBy_20 (dp + 5) i σ n = some ((N' : Int), σ', n) ∧ mx_MU μ σ' D N' N' ∧ mx_MS σ σ' N N' := by
  intro t
  induction t with
  | zero =>
    intro i N σ hi hiN hL
    have le := mx_cz_b (mx_on (σ 36)) 1920
    have eN : i = N := by have := hL.2.2.1; omega
    refine ⟨σ, N, ?_, by rw [eN] at hL; exact hL, mx_MS_rf⟩
    rw [co_demandedBy_20_e, hL.2.1, if_neg (by omega)]
  | succ t ih =>
    intro i N σ hi hiN hL
    by_cases z : i = N
    · refine ⟨σ, N, ?_, by rw [z] at hL; exact hL, mx_MS_rf⟩
      rw [co_demandedBy_20_e, hL.2.1, if_neg (by omega)]
    · have lt : (i : Int) < (N : Int) := by omega
      have I : (0 : Int) ≤ (i : Int) ∧ (i : Int) < 1920 := ⟨by omega, by omega⟩
      obtain ⟨x, x1, x2, x3⟩ := hL.2.2.2.2.1 i (by omega)
      obtain ⟨g1, g2, g3, g4, g5⟩ := mx_MU_g hg hP hL
      have xd := (g4 x).mpr x2
      have xl := mx_dd_lt hg x2
      obtain ⟨σ1, M, a1, a2, a3, a4⟩ := wa_beginAll_s (n := n) g1 xl xd (dp + 2)
      obtain ⟨u1, u2⟩ := mx_MU_up hL a2
      rw [g3, g5] at a4
      have len := mx_wl_len hg (μ 37 5) x
      have xT := fun T hc => hL.2.2.2.2.2.2.2 T hc x xl x3
      obtain ⟨σ2, N2, b1, b2, b3, b4⟩ := co_demandedBy_50_s (n := n) hg hP dp x i x2 _ M 0 N σ1 (by omega) a3 (by omega) u1 a4 (fun w hw => ⟨mx_wl_ok hg x2 hw, fun T hc => hc.2 x (xT T hc) x2 w hw⟩)
      have w1 : am_w ((i : Int) + 1) = ((i + 1 : Nat) : Int) := by rw [mx_w_id (by clear b1; omega) (by clear b1; omega)]; rfl
      rw [w1] at b1
      clear w1
      have x2' : σ2 35 i = x := by rw [b3.2.2 i (by omega), u2.2.2 i (by omega)]; exact x1
      obtain ⟨l1, l2, l3, l4, l5, l6, l7, l8⟩ := b2
      have L2 : mx_MU μ σ2 D N2 (i + 1) := ⟨l1, l2, l3, l4, l5, l6, fun k hk y hy w hw => by
        by_cases q : k = i
        · subst q
          rw [x2'] at hy
          have : y = x := by omega
          subst this
          exact b4 w hw
        · exact l7 k (by omega) y hy w hw, l8⟩
      obtain ⟨σ', N', e1, e2, e3⟩ := ih (i + 1) N2 σ2 (by omega) (by have := b3.1; omega) L2
      refine ⟨σ', N', ?_, e2, mx_MS_tr u2 (mx_MS_tr b3 e3)⟩
      rw [co_demandedBy_20_e, hL.2.1, if_pos lt, if_pos I.2, ix_35 I.1 I.2, Int.toNat_natCast, x1, show wa_beginAll (dp + 5) x σ n = _ from a1, Option.bind_some]
      dsimp only
      rw [show ((0 : Nat) : Int) = 0 from rfl] at b1
      rw [b1]
      exact e1
theorem ar_fill3_5_36 (d : Nat) : ∀ (t i : Nat) (σ : am_M), i + t = 1920 → ∃ σ' : am_M, ar_fill3_5 d 36 0 i 1920 σ n = some (0, σ', n) ∧ mx_Fr [36] σ σ' ∧ (∀ j : Nat, i ≤ j → j < 1920 → σ' 36 j = 0) ∧ ∀ j : Nat, j < i → σ' 36 j = σ 36 j := by
  intro t
  induction t with
  | zero =>
    intro i σ hi
    exact ⟨σ, by rw [ar_fill3_5_e, if_neg (by omega)], mx_fr_rf, fun j h1 h2 => by omega, fun _ _ => rfl⟩
  | succ t ih =>
    intro i σ hi
    have I : (0 : Int) ≤ (i : Int) ∧ (i : Int) < 1920 := ⟨by omega, by omega⟩
    have w1 : am_w ((i : Int) + 1) = ((i + 1 : Nat) : Int) := by rw [mx_w_id (by omega) (by omega)]; rfl
    rw [ar_fill3_5_e, if_pos I.2, ix_36 I.1 I.2, mx_m, w1, show am_w8 0 = 0 by decide, Int.toNat_natCast, show (36 : Int).toNat = 36 from rfl]
    clear w1
    obtain ⟨σ', p1, p2, p3, p4⟩ := ih (i + 1) (am_wr σ 36 i 0) (by omega)
    refine ⟨σ', p1, mx_fr_tr mx_fr_w1 p2, fun j h1 h2 => ?_, fun j h => ?_⟩
    · by_cases q : j = i
      · rw [p4 j (by omega), q, mx_wr_at]
      · exact p3 j (by omega) h2
    · rw [p4 j (by omega), mx_wr_off (by omega)]
theorem mx_cz_f {P : Nat → Bool} : ∀ K, (∀ k, k < K → P k = false) → mx_cz P K = 0 := by
  intro K
  induction K with
  | zero => intro _; rfl
  | succ K ih =>
    intro h
    show mx_cz P K + (if P K = true then 1 else 0) = 0
    rw [ih (fun k hk => h k (by omega)), h K (Nat.lt_succ_self _)]
    rfl
/-- demandedBy() -/
theorem co_demandedBy_s (hg : mx_gd μ) (hP : mx_Pv μ) (dp : Nat) (hdd : mx_dd μ D) : ∃ (σ' : am_M) (N : Nat), co_demandedBy (dp + 6) D μ n = some ((N : Int), σ', n) ∧ mx_MU μ σ' D N N ∧ σ' 36 D = 1 := by
  have hd := mx_dd_lt hg hdd
  obtain ⟨σ1, f1, f2, f3, -⟩ := ar_fill3_5_36 (n := n) (dp + 4) 1920 0 μ rfl
  have f0 : ar_fill3 (dp + 5) 36 0 μ n = some (0, σ1, n) := by
    rw [ar_fill3_e, mx_if_t (by decide)]
    exact f1
  obtain ⟨σ2, h2⟩ : ∃ σ2, σ2 = am_wr σ1 33 5 0 := ⟨_, rfl⟩
  have z2 : ∀ x : Nat, x < 1920 → σ2 36 x = 0 := fun x hx => by rw [h2, mx_wr_ne (by decide)]; exact f3 x (Nat.zero_le _) hx
  have M0 : mx_MU μ σ2 D 0 0 := by
    refine ⟨?_, by rw [h2, mx_wr_at]; rfl, ?_, fun x hx => Or.inl (z2 x hx), fun k h => absurd h (Nat.not_lt_zero _), fun x hx q => ?_, fun k h => absurd h (Nat.not_lt_zero _), fun T _ x hx q => ?_⟩
    · rw [h2]
      exact mx_fq_wr (mx_fq_up (mx_fq_of f2) rfl) rfl
    · rw [mx_cz_f 1920 (fun k hk => by unfold mx_on; rw [z2 k hk]; rfl)]
    · rw [z2 x hx] at q; exact absurd q (by decide)
    · rw [z2 x hx] at q; exact absurd q (by decide)
  obtain ⟨σ3, N3, a1, a2, a3, a4, a5⟩ := co_listIfUnmarked_s (n := n) hg (dp + 4) (v := D) (Or.inr ⟨D, rfl, hd, hdd⟩) (Nat.le_refl _) M0 (fun T hT => Or.inr (by rw [Int.toNat_natCast]; exact hT.1))
  obtain ⟨σ', N', b1, b2, b3⟩ := co_demandedBy_20_s (n := n) hg hP dp 1920 0 N3 σ3 rfl (Nat.zero_le _) a3
  refine ⟨σ', N', ?_, b2, ?_⟩
  · rw [co_demandedBy_e, f0, Option.bind_some, mx_m, ← h2, show co_listIfUnmarked (dp + 5) D σ2 n = _ from a1, Option.bind_some]
    exact b1
  · rcases a4 with q | q
    · omega
    · rw [Int.toNat_natCast] at q
      exact b3.2.1 _ q
end
