/-! COSTS: what the ways are like -/
section
variable {n : Nat} {μ : am_M}
def mx_vk (μ : am_M) (v : Int) : Prop := v = -1 ∨ ∃ j : Nat, v = j ∧ j < 1920 ∧ mx_dd μ j
def mx_wok (μ : am_M) (w : mx_wt) : Prop := mx_vk μ w.2.2.1 ∧ mx_vk μ w.2.2.2.1 ∧ 1 ≤ w.2.2.2.2.2 ∧ w.2.2.2.2.2 ≤ 2000000000000
theorem mx_dg_b : ∀ f a, mx_dg f a ≤ f ∧ (0 < f → 0 < a → 0 < mx_dg f a) := by
  intro f
  induction f with
  | zero => exact fun a => ⟨Nat.le_refl _, fun h => absurd h (Nat.lt_irrefl _)⟩
  | succ f ih =>
    intro a
    have e : mx_dg (f + 1) a = if a = 0 then 0 else mx_dg f (a / 2) + 1 := rfl
    rw [e]
    have := (ih (a / 2)).1
    split
    · exact ⟨by omega, fun _ h => by omega⟩
    · exact ⟨by omega, fun _ _ => by omega⟩
theorem mx_pr_rg {k a b r : Int} (ha : 1 ≤ a ∧ a ≤ 1000000) (hb : 0 ≤ b ∧ b ≤ 1000000) (hr : 0 ≤ r ∧ r ≤ 1000000) : 1 ≤ mx_pr k a b r ∧ mx_pr k a b r ≤ 2000000000000 := by
  have m1 := mx_mul_rg (a := a) (b := b) ⟨by omega, ha.2⟩ hb
  have dg := mx_dg_b 63 a.toNat
  have m2 := mx_mul_rg (a := a) (b := mx_digits a) ⟨by omega, ha.2⟩ ⟨by unfold mx_digits; omega, by unfold mx_digits; omega⟩
  clear dg
  have r1 : 1 ≤ mx_reads k a b r ∧ mx_reads k a b r ≤ 3000000 := by
    unfold mx_reads
    clear m1 m2
    split
    · omega
    · split
      · omega
      · split <;> omega
  have w1 : 0 ≤ mx_works k a b r ∧ mx_works k a b r ≤ 1000001000000 := by
    unfold mx_works
    split
    · omega
    · split
      · omega
      · split
        · omega
        · split <;> omega
  have w2 : k = 11 → mx_works k a b r = 0 := fun q => by subst q; rfl
  unfold mx_pr
  split
  · have := w2 ‹_›
    omega
  · omega
theorem mx_cR_1 (hg : mx_gd μ) (i : Nat) (h : (i : Int) < μ 2 9) (hT : μ 10 i = i) : 1 ≤ mx_cR μ i ∧ mx_cR μ i ≤ 1000000 := by
  have w2 := hg.1.2.1
  have b := mx_cR_b hg i
  obtain ⟨e, e1, e2⟩ := hg.1.2.2.2.2.2.1 i h hT
  have z : mx_cR μ i ≠ 0 := (mx_rF_iff (μ 2 3).toNat i).mpr ⟨e, by omega, e2⟩
  omega
theorem mx_vk_dm (hg : mx_gd μ) {g o p : Int} (h0 : 0 ≤ g) (h1 : g < μ 2 9) (hT : μ 10 g.toNat = g) (ho : -1 ≤ o ∧ o ≤ 3) (hp : -1 ≤ p ∧ p ≤ 4) : mx_vk μ (mx_dm g o p) := by
  have h64 := hg.2.1
  have w2 := hg.1.2.1
  obtain ⟨j, hj⟩ : ∃ j : Nat, g * 30 + (o + 1) * 6 + p + 1 = j := ⟨(g * 30 + (o + 1) * 6 + p + 1).toNat, by omega⟩
  have e : j / 30 = g.toNat := by omega
  refine Or.inr ⟨j, hj, by omega, ?_, ?_⟩
  · rw [e]; omega
  · rw [e, hT]; omega
theorem mx_wm_mem {al g o p : Int} {w : mx_wt} : ∀ (t a : Nat), w ∈ mx_wm μ al g o p t a → ∃ e : Nat, a ≤ e ∧ e < a + t ∧ μ 9 e = g ∧ w ∈ mx_we μ al o p e 0 := by
  intro t
  induction t with
  | zero => intro a h; cases h
  | succ t ih =>
    intro a h
    have mS : mx_wm μ al g o p (t + 1) a = (if μ 9 a = g then mx_we μ al o p a 0 else []) ++ mx_wm μ al g o p t (a + 1) := rfl
    rw [mS, List.mem_append] at h
    rcases h with h | h
    · by_cases q : μ 9 a = g
      · rw [if_pos q] at h
        exact ⟨a, Nat.le_refl _, by omega, q, h⟩
      · rw [if_neg q] at h; cases h
    · obtain ⟨e, e1, e2, e3, e4⟩ := ih (a + 1) h
      exact ⟨e, by omega, by omega, e3, e4⟩
theorem mx_we_mem {al o p : Int} {w : mx_wt} {e : Nat} (h : w ∈ mx_we μ al o p e 0) : ∃ s : Nat, s < mx_slots (μ 5 e) ∧ mx_sl μ al o p e s = some w := by
  unfold mx_we at h
  rw [List.mem_filterMap] at h
  obtain ⟨s, h1, h2⟩ := h
  rw [List.mem_map] at h1
  obtain ⟨s', h3, h4⟩ := h1
  rw [List.mem_range] at h3
  exact ⟨s, by omega, h2⟩
theorem mx_pickb {b : Bool} {x w : mx_wt} (h : (if b = true then some x else none) = some w) : x = w := by
  cases b with
  | false => cases h
  | true => cases h; rfl
theorem mx_sl_ok (hg : mx_gd μ) {al o p : Int} {w : mx_wt} {e s : Nat} (he : (e : Int) < μ 2 3) (hH : μ 9 e ≠ -1) (ho : -1 ≤ o ∧ o ≤ 3) (hp : -1 ≤ p ∧ p ≤ 4) (h : mx_sl μ al o p e s = some w) : mx_wok μ w := by
  have q := hg.1.2.2.1.1 e he hH
  have ke := hg.1.2.2.2.1 e he
  have kk := ke.2.2.2.2.2 hH
  have rg : 1 ≤ mx_cR μ (μ 9 e).toNat ∧ mx_cR μ (μ 9 e).toNat ≤ 1000000 := mx_cR_1 hg _ (by have := q.1; omega) (by rw [q.1.2.2]; have := q.1.1; omega)
  have yb : 0 ≤ (if μ 8 e < 0 then 0 else mx_cR μ (μ 8 e).toNat) ∧ (if μ 8 e < 0 then 0 else mx_cR μ (μ 8 e).toNat) ≤ 1000000 := by
    split
    · exact ⟨by decide, by decide⟩
    · exact mx_cR_b hg _
  have m1 : mx_vk μ (-1) := Or.inl rfl
  by_cases k1 : μ 5 e = 1
  · unfold mx_sl at h
    rw [if_pos k1] at h
    have h := mx_pickb h
    subst h
    refine ⟨m1, m1, ?_⟩
    show 1 ≤ mx_pe μ e 0 ∧ mx_pe μ e 0 ≤ 2000000000000
    unfold mx_pe
    rw [if_pos k1]
    exact mx_pr_rg rg yb ⟨by omega, rg.2⟩
  · have xx : 0 ≤ μ 7 e ∧ μ 7 e < μ 2 9 ∧ μ 10 (μ 7 e).toNat = μ 7 e := by rcases q.2.1 with z | z; exact absurd (kk.1.mpr z) k1; exact z
    have rx : 1 ≤ mx_cR μ (μ 7 e).toNat ∧ mx_cR μ (μ 7 e).toNat ≤ 1000000 := mx_cR_1 hg _ (by omega) (by rw [xx.2.2]; omega)
    have pe : ∀ i, 1 ≤ mx_pe μ e i ∧ mx_pe μ e i ≤ 2000000000000 := fun i => by
      unfold mx_pe
      rw [if_neg k1]
      exact mx_pr_rg rx yb ⟨by omega, rg.2⟩
    by_cases k3 : μ 5 e = 3
    · unfold mx_sl at h
      rw [if_neg k1, if_pos k3] at h
      have h := mx_pickb h
      subst h
      exact ⟨mx_vk_dm hg xx.1 xx.2.1 xx.2.2 ho hp, m1, pe 0⟩
    · have kd := mx_kd_n ke.1
      have pb : -1 ≤ μ 6 e ∧ μ 6 e ≤ 3 := by
        have := ke.2.1
        have := ke.2.2.2.1 (by omega)
        omega
      have plb : -1 ≤ (if s % 2 = 0 then μ 6 e else 4) ∧ (if s % 2 = 0 then μ 6 e else 4) ≤ 4 := by split <;> omega
      unfold mx_sl at h
      rw [if_neg k1, if_neg k3] at h
      have h := mx_pickb h
      subst h
      refine ⟨mx_vk_dm hg xx.1 xx.2.1 xx.2.2 ?_ plb, ?_, pe _⟩
      · split
        · exact pb
        · exact ho
      · show mx_vk μ (if μ 8 e = -1 then -1 else mx_dm (μ 8 e) _ _)
        by_cases y : μ 8 e = -1
        · rw [if_pos y]; exact m1
        · have yy : 0 ≤ μ 8 e ∧ μ 8 e < μ 2 9 ∧ μ 10 (μ 8 e).toNat = μ 8 e := by rcases q.2.2 with z | z; exact absurd z y; exact z
          rw [if_neg y]
          refine mx_vk_dm hg yy.1 yy.2.1 yy.2.2 ?_ plb
          split
          · exact pb
          · decide
theorem mx_dd_lt (hg : mx_gd μ) {d : Nat} (h : mx_dd μ d) : d < 1920 := by
  have h64 := hg.2.1
  have w2 := hg.1.2.1
  have := h.1
  omega
theorem mx_wl_ok (hg : mx_gd μ) {al : Int} {d : Nat} (hdd : mx_dd μ d) {w : mx_wt} (h : w ∈ mx_wl μ al d) : mx_wok μ w := by
  have hd := mx_dd_lt hg hdd
  have ob := mx_op d hd
  have w2 := hg.1.2.1
  have g0 : (0 : Int) ≤ ((d / 30 : Nat) : Int) := by omega
  have gT : μ 10 ((d / 30 : Nat) : Int).toNat = (d / 30 : Nat) := by rw [Int.toNat_natCast]; exact hdd.2
  have rg := mx_cR_1 hg _ hdd.1 hdd.2
  have z0 : (0 : Int) ≤ 0 ∧ (0 : Int) ≤ 1000000 := by decide
  have m1 : mx_vk μ (-1) := Or.inl rfl
  have n1 : (-1 : Int) ≤ -1 ∧ (-1 : Int) ≤ 3 := by decide
  have n2 : (-1 : Int) ≤ -1 ∧ (-1 : Int) ≤ 4 := by decide
  unfold mx_wl at h
  rw [List.mem_append, List.mem_append] at h
  rcases h with (h | h) | h
  · obtain ⟨e, e1, e2, e3, e4⟩ := mx_wm_mem _ _ h
    obtain ⟨s, s1, s2⟩ := mx_we_mem e4
    exact mx_sl_ok hg (by omega) (by omega) ob.1 ob.2 s2
  · unfold mx_wst at h
    split at h
    · rw [List.mem_singleton] at h
      subst h
      refine ⟨mx_vk_dm hg g0 hdd.1 gT n1 ob.2, m1, ?_⟩
      show 1 ≤ mx_pg μ _ 0 ∧ mx_pg μ _ 0 ≤ _
      rw [Int.toNat_natCast, mx_pg0]
      exact mx_pr_rg rg z0 ⟨by omega, rg.2⟩
    · cases h
  · unfold mx_wsp at h
    split at h
    · rw [List.mem_singleton] at h
      subst h
      refine ⟨mx_vk_dm hg g0 hdd.1 gT n1 n2, m1, ?_⟩
      show 1 ≤ mx_pg μ _ 1 ∧ mx_pg μ _ 1 ≤ _
      rw [Int.toNat_natCast, mx_pg1]
      exact mx_pr_rg rg z0 ⟨by omega, rg.2⟩
    · cases h
/-! one solution at most -/
theorem mx_in_lt {c : Nat → Int} {v : Int} (hv : mx_vk μ v) (h : ∀ d, mx_dd μ d → 1 ≤ c d) : 0 ≤ mx_in c v := by
  unfold mx_in
  split
  · exact Int.le_refl _
  · rcases hv with q | ⟨j, q1, -, q3⟩
    · contradiction
    · rw [q1, Int.toNat_natCast]
      exact Int.le_trans (by decide) (h j q3)
theorem mx_sol_un (hg : mx_gd μ) {al : Int} {c c' : Nat → Int} (h : mx_sol μ al c) (h' : mx_sol μ al c') : ∀ (N : Nat) (d : Nat), mx_dd μ d → (c d ≤ N ∨ c' d ≤ N) → c d = c' d := by
  have key : ∀ {c c' : Nat → Int}, mx_sol μ al c → mx_sol μ al c' → ∀ (N : Nat) (d : Nat), (∀ j, mx_dd μ j → (c j ≤ N ∨ c' j ≤ N) → c j = c' j) → mx_dd μ d → c d ≤ N + 1 → c' d ≤ c d := by
    intro c c' h h' N d ih hd hN
    have b' := (h' d hd).1.2
    rcases (h d hd).2.2 with q | ⟨w, w1, w2⟩
    · omega
    · have ok := mx_wl_ok hg hd w1
      have l := (h' d hd).2.1 w w1
      have p1 := mx_in_lt ok.1 (fun j hj => (h j hj).1.1)
      have p2 := mx_in_lt ok.2.1 (fun j hj => (h j hj).1.1)
      have p3 := ok.2.2.1
      have same : ∀ v, mx_vk μ v → mx_in c v ≤ N → mx_in c' v = mx_in c v := fun v hv hl => by
        unfold mx_in at hl ⊢
        split
        · rfl
        · rename_i nv
          rw [if_neg nv] at hl
          rcases hv with q | ⟨j, q1, -, q3⟩
          · contradiction
          · rw [q1, Int.toNat_natCast] at hl ⊢
            exact (ih j q3 (Or.inl hl)).symm
      unfold mx_sum at w2 l
      rw [same _ ok.1 (by omega), same _ ok.2.1 (by omega)] at l
      omega
  intro N
  induction N with
  | zero =>
    intro d hd hN
    have a := (h d hd).1.1
    have b := (h' d hd).1.1
    omega
  | succ N ih =>
    intro d hd hN
    have k1 := key h h' N d ih hd
    have k2 := key h' h N d (fun j hj q => (ih j hj (Or.comm.mp q)).symm) hd
    omega
theorem mx_sol_eq (hg : mx_gd μ) {al : Int} {c c' : Nat → Int} (h : mx_sol μ al c) (h' : mx_sol μ al c') (d : Nat) (hd : mx_dd μ d) : c d = c' d :=
  mx_sol_un hg h h' 1000000000001 d hd (Or.inl (by have := (h d hd).1.2; omega))
end
