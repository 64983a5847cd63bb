section
variable {n : Nat} {ν : am_M} {c : Nat → Int} {N : Nat}
/-- how many of K hold -/
def mx_cz (P : Nat → Bool) : Nat → Nat
  | 0 => 0
  | k + 1 => mx_cz P k + if P k = true then 1 else 0
theorem mx_cz_le {P Q : Nat → Bool} : ∀ K, (∀ k, k < K → Q k = true → P k = true) → mx_cz Q K ≤ mx_cz P K := by
  intro K
  induction K with
  | zero => intro _; exact Nat.le_refl _
  | succ K ih =>
    intro h
    have i := ih (fun k hk => h k (by omega))
    have a := h K (Nat.lt_succ_self _)
    show mx_cz Q K + (if Q K = true then 1 else 0) ≤ mx_cz P K + (if P K = true then 1 else 0)
    by_cases q : Q K = true
    · rw [if_pos q, if_pos (a q)]; omega
    · rw [if_neg q]; omega
theorem mx_cz_lt {P Q : Nat → Bool} (x : Nat) (hx : P x = true) (hq : Q x = false) : ∀ K, x < K → (∀ k, k < K → Q k = true → P k = true) → mx_cz Q K < mx_cz P K := by
  intro K
  induction K with
  | zero => intro h; omega
  | succ K ih =>
    intro hk h
    have a := h K (Nat.lt_succ_self _)
    show mx_cz Q K + (if Q K = true then 1 else 0) < mx_cz P K + (if P K = true then 1 else 0)
    by_cases z : x = K
    · subst z
      have i := mx_cz_le x (fun k hk => h k (by omega))
      rw [hq, if_neg (by decide), if_pos hx]
      omega
    · have i := ih (by omega) (fun k hk => h k (by omega))
      by_cases q : Q K = true
      · rw [if_pos q, if_pos (a q)]; omega
      · rw [if_neg q]; omega
theorem mx_cz_b (P : Nat → Bool) : ∀ K, mx_cz P K ≤ K := by
  intro K
  induction K with
  | zero => exact Nat.le_refl _
  | succ K ih =>
    show mx_cz P K + (if P K = true then 1 else 0) ≤ K + 1
    split <;> omega
theorem mx_cz_0 {P : Nat → Bool} : ∀ K, mx_cz P K = 0 → ∀ k, k < K → P k = false := by
  intro K
  induction K with
  | zero => intro _ k h; omega
  | succ K ih =>
    intro h k hk
    have e : mx_cz P K + (if P K = true then 1 else 0) = 0 := h
    by_cases z : k = K
    · subst z
      cases q : P k with
      | false => rfl
      | true => rw [q, if_pos rfl] at e; omega
    · exact ih (by omega) k (by omega)
theorem mx_cz_1 {P : Nat → Bool} (m : Nat → Int) : ∀ K, 0 < mx_cz P K → ∃ k, k < K ∧ P k = true ∧ ∀ l, l < K → P l = true → m k ≤ m l := by
  intro K
  induction K with
  | zero => intro h; exact absurd h (Nat.lt_irrefl _)
  | succ K ih =>
    intro h
    have e : mx_cz P (K + 1) = mx_cz P K + (if P K = true then 1 else 0) := rfl
    by_cases z : 0 < mx_cz P K
    · obtain ⟨k, k1, k2, k3⟩ := ih z
      by_cases q : P K = true ∧ m K < m k
      · refine ⟨K, Nat.lt_succ_self _, q.1, fun l l1 l2 => ?_⟩
        by_cases y : l = K
        · rw [y]; exact Int.le_refl _
        · have := k3 l (by omega) l2
          have := q.2
          omega
      · refine ⟨k, by omega, k2, fun l l1 l2 => ?_⟩
        by_cases y : l = K
        · subst y
          rcases Int.lt_or_le (m l) (m k) with a | a
          · exact absurd ⟨l2, a⟩ q
          · exact a
        · exact k3 l (by omega) l2
    · have z0 : mx_cz P K = 0 := by omega
      have pK : P K = true := by
        cases q : P K with
        | true => rfl
        | false => rw [e, z0, q, if_neg (by decide)] at h; omega
      refine ⟨K, Nat.lt_succ_self _, pK, fun l l1 l2 => ?_⟩
      by_cases y : l = K
      · rw [y]; exact Int.le_refl _
      · rw [mx_cz_0 K z0 l (by omega)] at l2
        exact absurd l2 (by decide)
/-- listed number k is not final -/
def mx_nf (ν : am_M) (c : Nat → Int) (σ : am_M) (k : Nat) : Bool := !decide (σ 34 (ν 35 k).toNat = c (ν 35 k).toNat)
theorem co_lowerAll_4_s (hN : mx_LN ν c N) (dp : Nat) : ∀ (t r : Nat) (g : Int) (σ : am_M), r + t = N + 1 → mx_LB ν c N σ → mx_cz (mx_nf ν c σ) N ≤ N - r → (g = 0 → mx_cz (mx_nf ν c σ) N = 0) →
    ∃ σ' : am_M, co_lowerAll_4 (dp + 6) g r σ n = some (0, σ', n) ∧ mx_LB ν c N σ' ∧ mx_cz (mx_nf ν c σ') N = 0 := by
  intro t
  induction t with
  | zero =>
    intro r g σ hr h h1 h2
    have e33 : σ 33 5 = N := by rw [h.1 33 5 (by decide) (by unfold mx_P37; decide)]; exact hN.2.2.2.1.1
    refine ⟨σ, ?_, h, by omega⟩
    rw [co_lowerAll_4_e]
    by_cases z : g = 0
    · rw [if_pos z]
    · rw [if_neg z, e33, if_pos (by omega)]
  | succ t ih =>
    intro r g σ hr h h1 h2
    have e33 : σ 33 5 = N := by rw [h.1 33 5 (by decide) (by unfold mx_P37; decide)]; exact hN.2.2.2.1.1
    have N19 := hN.2.2.2.1.2
    by_cases z : g = 0
    · exact ⟨σ, by rw [co_lowerAll_4_e, if_pos z], h, h2 z⟩
    · have wN : am_w ((N : Int) - 1) = (N : Int) - 1 := mx_w_id (by omega) (by omega)
      have wr : am_w ((r : Int) + 1) = ((r + 1 : Nat) : Int) := by rw [mx_w_id (by clear wN; omega) (by clear wN; omega)]; rfl
      obtain ⟨σ1, g1, a1, a2, a3, a4, a5⟩ := co_lowerAll_25_s (n := n) hN dp r N 0 σ (Nat.le_refl _) h
      rw [wr] at a1
      have rN : ¬ ((N : Int) < (r : Int)) := by clear wN wr; omega
      rw [co_lowerAll_4_e, if_neg z, e33, if_neg rN, wN, a1]
      clear wN wr
      -- what is final stays final
      have stay : ∀ k, k < N → mx_nf ν c σ1 k = true → mx_nf ν c σ k = true := fun k hk q => by
        obtain ⟨x, x1, x2, x3⟩ := hN.2.2.2.2.1 k hk
        unfold mx_nf at q ⊢
        rw [x1, Int.toNat_natCast] at q ⊢
        cases w : decide (σ 34 x = c x) with
        | false => rfl
        | true =>
          have e := of_decide_eq_true w
          have b := (a2.2.2.1 x (mx_dd_lt hN.1 x2) x3).1
          have d := a3 x
          rw [decide_eq_true (show σ1 34 x = c x by omega)] at q
          exact absurd q (by decide)
      have le := mx_cz_le N stay
      have less : 0 < mx_cz (mx_nf ν c σ) N → mx_cz (mx_nf ν c σ1) N < mx_cz (mx_nf ν c σ) N := fun hp => by
        obtain ⟨k, k1, k2, k3⟩ := mx_cz_1 (P := mx_nf ν c σ) (fun k => c (ν 35 k).toNat) N hp
        obtain ⟨x, x1, x2, x3⟩ := hN.2.2.2.2.1 k k1
        refine mx_cz_lt k k2 ?_ N k1 stay
        have fin := a5 k k1 x x1 (fun j j1 j2 j3 => by
          rcases h.2.2.2 j j1 j2 with ⟨l, l1, l2⟩ | q
          · cases w : mx_nf ν c σ l with
            | true =>
              have := k3 l l1 w
              rw [l2, x1, Int.toNat_natCast, Int.toNat_natCast] at this
              omega
            | false =>
              unfold mx_nf at w
              rw [l2, Int.toNat_natCast] at w
              cases y : decide (σ 34 j = c j) with
              | true => exact of_decide_eq_true y
              | false => rw [y] at w; exact absurd w (by decide)
          · exact q)
        unfold mx_nf
        rw [x1, Int.toNat_natCast, decide_eq_true fin]; rfl
      refine ih (r + 1) g1 σ1 (by omega) a2 ?_ (fun q => ?_)
      · by_cases p : 0 < mx_cz (mx_nf ν c σ) N
        · have := less p; omega
        · omega
      · rcases a4 with ⟨-, b2⟩ | b
        · have e : mx_cz (mx_nf ν c σ1) N = mx_cz (mx_nf ν c σ) N := by unfold mx_nf; rw [b2]
          by_cases p : 0 < mx_cz (mx_nf ν c σ) N
          · have := less p; omega
          · omega
        · omega
/-- lowerAll() -/
theorem co_lowerAll_s (hN : mx_LN ν c N) (h : mx_LB ν c N ν) (dp : Nat) : ∃ σ' : am_M, co_lowerAll (dp + 7) ν n = some (0, σ', n) ∧ mx_LB ν c N σ' ∧ ∀ j : Nat, j < 1920 → ν 34 j ≠ -1 → σ' 34 j = c j := by
  obtain ⟨σ', p1, p2, p3⟩ := co_lowerAll_4_s (n := n) hN dp (N + 1) 0 1 ν (by omega) h (by have := mx_cz_b (mx_nf ν c ν) N; omega) (fun q => absurd q (by decide))
  refine ⟨σ', by rw [co_lowerAll_e]; exact p1, p2, fun j j1 j2 => ?_⟩
  rcases p2.2.2.2 j j1 j2 with ⟨l, l1, l2⟩ | q
  · have := mx_cz_0 N p3 l l1
    unfold mx_nf at this
    rw [l2, Int.toNat_natCast] at this
    cases y : decide (σ' 34 j = c j) with
    | true => exact of_decide_eq_true y
    | false => rw [y] at this; exact absurd this (by decide)
  · exact q
end
section
variable {n : Nat} {μ : am_M}
/-- costOf() -/
theorem co_costOf_s (hg : mx_gd μ) (hP : mx_Pv μ) {c : Nat → Int} (hs : mx_sol μ (μ 37 5) c) (hv : mx_Lv μ) (dp d : Nat) (hdd : mx_dd μ d) :
    ∃ σ' : am_M, co_costOf (dp + 8) d μ n = some (c d, σ', n) ∧ mx_Fq [34, 35] mx_P38 μ σ' ∧ mx_Lv σ' ∧ σ' 34 d = c d ∧ (∀ x : Nat, x < 1920 → μ 34 x ≠ -1 → σ' 34 x ≠ -1) := by
  have hd := mx_dd_lt hg hdd
  have D : (0 : Int) ≤ (d : Int) ∧ (d : Int) < 1920 := ⟨by omega, by omega⟩
  obtain ⟨c0, s1, s2⟩ := hv
  have old : ∀ x : Nat, x < 1920 → μ 34 x ≠ -1 → mx_dd μ x ∧ μ 34 x = c x ∧ ∀ w ∈ mx_wl μ (μ 37 5) x, mx_kn μ w.2.2.1 ∧ mx_kn μ w.2.2.2.1 := fun x hx hk => by
    obtain ⟨a1, a2, a3⟩ := s2 x hx hk
    exact ⟨a1, by rw [a2]; exact mx_sol_eq hg s1 hs x a1, a3⟩
  rw [co_costOf_e, ix_34 D.1 D.2, ix_34 D.1 D.2, Int.toNat_natCast]
  by_cases z : μ 34 d = -1
  · rw [if_pos (mx_cmpE.mpr z)]
    obtain ⟨ν, N, a1, a2, kd, kd1, kd2⟩ := co_listUnknown_s (n := n) hg hP (dp + 1) d hdd z
    obtain ⟨g1, g2, g3, g4, g5⟩ := mx_LU_g hg hP a2
    have sn : mx_sol ν (ν 37 5) c := fun x hx => by rw [g5, g3]; exact hs x ((g4 x).mp hx)
    obtain ⟨l1, l2, l3, l4, l5, l6, l7⟩ := a2
    have kle := mx_kc_le (ν 34) 1920
    have kn0 : ∀ u, mx_kn μ u → mx_vk μ u → mx_kn ν u := fun u hu hv => by
      unfold mx_kn at hu ⊢
      rcases hv with q | ⟨j, q1, q2, -⟩
      · exact Or.inl q
      · rw [q1, Int.toNat_natCast] at hu ⊢
        rcases hu with y | y
        · omega
        · right
          rcases l5 j q2 with p | ⟨k, k1, k2⟩
          · rw [p]; exact y
          · obtain ⟨x, x1, x2, x3, x4⟩ := l4 k k1
            have : x = j := by omega
            subst this
            exact absurd x4 y
    have HN : mx_LN ν c N := by
      refine ⟨g1, g2, sn, ⟨l2, by omega⟩, fun k hk => ?_, fun k hk x hx w hw => ?_, fun j j1 j2 => ?_⟩
      · obtain ⟨x, x1, x2, x3, x4⟩ := l4 k hk
        exact ⟨x, x1, (g4 x).mpr x2, by rw [x3]; decide⟩
      · rw [g5, g3] at hw
        exact l7 k hk x hx w hw
      · rw [g4]
        rcases l5 j j1 with p | ⟨k, k1, k2⟩
        · rw [p] at j2; exact (old j j1 j2).1
        · obtain ⟨x, x1, x2, x3, x4⟩ := l4 k k1
          have : x = j := by omega
          subst this
          exact x2
    have HB : mx_LB ν c N ν := by
      refine ⟨mx_fq_rf, fun j _ q => q, fun j j1 j2 => ?_, fun j j1 j2 => ?_⟩
      · have dj := HN.2.2.2.2.2.2 j j1 j2
        have b := (sn j dj).1
        rcases l5 j j1 with p | ⟨k, k1, k2⟩
        · rw [p] at j2 ⊢
          have := (old j j1 j2).2.1
          omega
        · obtain ⟨x, x1, x2, x3, x4⟩ := l4 k k1
          have : x = j := by omega
          subst this
          omega
      · rcases l5 j j1 with p | q
        · right
          rw [p] at j2 ⊢
          exact (old j j1 j2).2.1
        · exact Or.inl q
    obtain ⟨σ', b1, b2, b3⟩ := co_lowerAll_s (n := n) HN HB dp
    obtain ⟨e1, e2, e3, e4, e5⟩ := mx_LB_g HN b2
    have Fn : mx_Fq [34, 35] mx_P38 μ σ' := mx_fq_tr l1 (mx_fq_up b2.1 rfl)
    have dk : ν 34 d ≠ -1 := by
      obtain ⟨x, x1, x2, x3, x4⟩ := l4 kd kd1
      have : x = d := by omega
      subst this
      rw [x3]; decide
    have kb : ∀ j : Nat, j < 1920 → (σ' 34 j ≠ -1 ↔ ν 34 j ≠ -1) := fun j hj => by
      constructor
      · intro q p
        exact q (b2.2.1 j hj p)
      · intro q
        have dj := HN.2.2.2.2.2.2 j hj q
        have b := (sn j dj).1
        rw [b3 j hj q]
        omega
    refine ⟨σ', ?_, Fn, ⟨c, fun x hx => by rw [e5, e3]; exact sn x ((e4 x).mp hx), fun x hx hk => ?_⟩, b3 d hd dk, fun x hx hu => ?_⟩
    · rw [show co_listUnknown (dp + 7) d μ n = _ from a1, Option.bind_some]
      dsimp only
      rw [b1, Option.bind_some, ix_34 D.1 D.2]
      dsimp only
      rw [b3 d hd dk]
    · have nk := (kb x hx).mp hk
      have dx := HN.2.2.2.2.2.2 x hx nk
      refine ⟨(e4 x).mpr dx, b3 x hx nk, fun w hw => ?_⟩
      rw [e5, e3] at hw
      have ok := mx_wl_ok g1 dx hw
      have both : mx_kn ν w.2.2.1 ∧ mx_kn ν w.2.2.2.1 := by
        rcases l5 x hx with p | ⟨k, k1, k2⟩
        · rw [p] at nk
          have o := old x hx nk
          rw [g5, g3] at hw
          have okm := mx_wl_ok hg o.1 hw
          exact ⟨kn0 _ (o.2.2 w hw).1 okm.1, kn0 _ (o.2.2 w hw).2 okm.2.1⟩
        · rw [g5, g3] at hw
          exact l7 k k1 x k2 w hw
      exact ⟨(mx_LB_kn HN b2 ok.1 both.1).1, (mx_LB_kn HN b2 ok.2.1 both.2).1⟩
    · rw [kb x hx]
      rcases l5 x hx with p | ⟨k, k1, k2⟩
      · rw [p]; exact hu
      · obtain ⟨y, x1, x2, x3, x4⟩ := l4 k k1
        have : y = x := by omega
        subst this
        rw [x3]; decide
  · rw [if_neg (fun a => z (mx_cmpE.mp a))]
    have o := old d hd z
    refine ⟨μ, by rw [o.2.1], mx_fq_rf, ⟨c0, s1, s2⟩, o.2.1, fun _ _ hu => hu⟩
end
