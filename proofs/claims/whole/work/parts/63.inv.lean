/-! frames by cells and fields -/
def mx_Fq (C : List Nat) (P : List (Nat × Nat)) (σ σ' : am_M) : Prop := ∀ i j, i ∉ C → (i, j) ∉ P → σ' i j = σ i j
theorem mx_fq_rf {C : List Nat} {P : List (Nat × Nat)} {σ : am_M} : mx_Fq C P σ σ := fun _ _ _ _ => rfl
theorem mx_fq_tr {C : List Nat} {P : List (Nat × Nat)} {σ σ1 σ2 : am_M} (h1 : mx_Fq C P σ σ1) (h2 : mx_Fq C P σ1 σ2) : mx_Fq C P σ σ2 := fun i j hi hj => (h2 i j hi hj).trans (h1 i j hi hj)
theorem mx_fq_up {C1 C : List Nat} {P1 P : List (Nat × Nat)} {σ σ' : am_M} (h : mx_Fq C1 P1 σ σ') (hc : ((C1.all fun i => C.contains i) && P1.all fun q => C.contains q.1 || P.contains q) = true) : mx_Fq C P σ σ' := by
  rw [Bool.and_eq_true] at hc
  refine fun i j hi hj => h i j (fun h1 => hi ?_) (fun h1 => ?_)
  · have := List.all_eq_true.mp hc.1 i h1; simpa using this
  · have := List.all_eq_true.mp hc.2 (i, j) h1
    simp only [Bool.or_eq_true, List.contains_iff_mem] at this
    rcases this with q | q
    · exact hi q
    · exact hj q
theorem mx_fq_of {C : List Nat} {σ σ' : am_M} (h : mx_Fr C σ σ') : mx_Fq C [] σ σ' := fun i j hi _ => congrFun (h i hi) j
theorem mx_fq_wr {C : List Nat} {P : List (Nat × Nat)} {σ σ1 : am_M} {a k : Nat} {v : Int} (h : mx_Fq C P σ σ1) (ha : (C.contains a || P.contains (a, k)) = true) : mx_Fq C P σ (am_wr σ1 a k v) := by
  intro i j hi hj
  rw [← h i j hi hj]
  unfold am_wr
  rw [if_neg]
  rintro ⟨rfl, rfl⟩
  simp only [Bool.or_eq_true, List.contains_iff_mem] at ha
  rcases ha with q | q
  · exact hi q
  · exact hj q
def mx_dj (C : List Nat) (P : List (Nat × Nat)) (S : List Nat) (Q : List (Nat × Nat)) : Bool := (S.all fun i => !C.contains i && P.all fun q => !Nat.beq q.1 i) && Q.all fun q => !C.contains q.1 && !P.contains q
theorem mx_dj_c {C : List Nat} {P : List (Nat × Nat)} {S : List Nat} {Q : List (Nat × Nat)} {σ σ' : am_M} (h : mx_Fq C P σ σ') (hd : mx_dj C P S Q = true) {i : Nat} (hi : i ∈ S) : σ' i = σ i := by
  funext j
  unfold mx_dj at hd
  rw [Bool.and_eq_true] at hd
  have := List.all_eq_true.mp hd.1 i hi
  rw [Bool.and_eq_true] at this
  refine h i j (by simpa using this.1) (fun hq => ?_)
  have h2 := List.all_eq_true.mp this.2 (i, j) hq
  simp at h2
theorem mx_dj_f {C : List Nat} {P : List (Nat × Nat)} {S : List Nat} {Q : List (Nat × Nat)} {σ σ' : am_M} (h : mx_Fq C P σ σ') (hd : mx_dj C P S Q = true) {i j : Nat} (hi : (i, j) ∈ Q) : σ' i j = σ i j := by
  unfold mx_dj at hd
  rw [Bool.and_eq_true] at hd
  have := List.all_eq_true.mp hd.2 (i, j) hi
  rw [Bool.and_eq_true] at this
  exact h i j (by simpa using this.1) (by simpa using this.2)
/-! what holds between calls -/
def mx_I1 (σ : am_M) : Prop := (mx_W (σ 2 0) (σ 2 3) (σ 2 9) (σ 3) (σ 4) (σ 5) (σ 6) (σ 7) (σ 8) (σ 9) (σ 10) (σ 11) ∧ σ 2 3 ≤ 64 ∧ mx_Mb (σ 2 3) (σ 2 9) (σ 9) (σ 12)) ∧
  (mx_Re (σ 2 3) (σ 2 9) (σ 5) (σ 6) (σ 7) (σ 8) (σ 9) (σ 10) (σ 89) (σ 90) (σ 91) (σ 92) (σ 93) (σ 95) ∧ mx_Ri (σ 2 9) (σ 10) (σ 94) ∧ σ 82 1 = σ 2 3 ∧ σ 82 2 = σ 2 9) ∧
  (σ 82 0 = σ 2 0 ∧ (∀ t : Nat, (t : Int) < σ 2 0 → σ 85 t = σ 3 (4 * t) ∧ σ 86 t = σ 3 (4 * t + 1) ∧ σ 87 t = σ 3 (4 * t + 2) ∧ σ 88 t = σ 3 (4 * t + 3)) ∧ ∀ c : Nat, c < 4 → σ 84 c = σ 4 c)
def mx_S1 : List Nat := [3, 4, 5, 6, 7, 8, 9, 10, 11, 12, 84, 85, 86, 87, 88, 89, 90, 91, 92, 93, 94, 95]
def mx_Q1 : List (Nat × Nat) := [(2, 0), (2, 3), (2, 9), (82, 0), (82, 1), (82, 2)]
/-- whether a RULE takes e and f -/
def mx_fp (K P X Y C : Nat → Int) (r e f : Nat) : Bool :=
  if r = 1 then decide (K f = 5) && mx_hc (mx_yc C (Y f)) (P e) else if r = 2 then (decide (K f = 5) || decide (K f = 6)) && mx_hc (mx_yc C (X f)) (am_w (Int.tdiv (P e) 2))
  else if r = 3 then decide (K f = 3) && !decide (P f = P e) else if r = 4 then decide (K f = K e) && decide (P f = P e) else if r = 5 then decide (K f = 3) && decide (am_w (Int.tdiv (P f) 2) = P e) else decide (K f = 6)
def mx_Fg (m : Int) (K P X Y H C S W : Nat → Int) : Prop :=
  (∀ i : Nat, i < 29120 → W i = 0 ∨ W i = 1) ∧ (∀ e : Nat, e < 64 → (S (7 * e) = 0 ↔ W (455 * e + 64) = 0) ∧ (m ≤ e → W (455 * e + 64) = 0)) ∧
  ∀ e r f : Nat, e < 64 → 1 ≤ r → r < 7 → f < 64 → (W (455 * e + 65 * r + f) ≠ 0 → mx_bt (S (7 * e + r)) f = true) ∧
    (mx_bt (S (7 * e + r)) f = true → W (455 * e + 65 * r + f) ≠ 0 ∨ ((e : Int) < m ∧ (f : Int) < m ∧ (H e ≠ -1 → H f ≠ -1 → mx_fp K P X Y C r e f = false))) ∧ ((m ≤ e ∨ m ≤ f) → W (455 * e + 65 * r + f) = 0)
def mx_I2 (σ : am_M) : Prop := mx_Fg (σ 2 3) (σ 5) (σ 6) (σ 7) (σ 8) (σ 9) (σ 11) (σ 13) (σ 96) ∧ (∀ r : Nat, r < 7 → σ 97 r = σ 14 r) ∧ σ 82 3 = am_w (σ 14 0 + σ 14 1 + σ 14 2 + σ 14 3 + σ 14 4 + σ 14 5 + σ 14 6)
def mx_S2 : List Nat := [5, 6, 7, 8, 9, 11, 13, 14, 96, 97]
def mx_Q2 : List (Nat × Nat) := [(2, 3), (82, 3)]
def mx_I3 (σ : am_M) : Prop := σ 82 4 = σ 2 15 ∧ σ 82 5 = σ 2 16
def mx_I4 (σ : am_M) : Prop := σ 82 6 = σ 0 12
def mx_I5 (σ : am_M) : Prop := ∀ k : Nat, k < 8 → σ 83 k = σ 57 k
def mx_I6s (many : Int) (f el held sort size shown cells : Nat → Int) (s : Nat) : Prop :=
  (held s = 0 ∧ f 2 = -1 ∧ f 3 = -1 ∧ f 1 = 0) ∨ (held s = 1 ∧ (0 ≤ sort s ∧ sort s ≤ 3) ∧ f 2 = sort s ∧ f 3 = -1 ∧ f 1 = size s ∧ (0 ≤ size s ∧ size s ≤ 160) ∧ ∀ i : Nat, i < 160 → el i = cells (160 * s + i)) ∨
  (held s = 2 ∧ f 2 = -1 ∧ f 1 = 0 ∧ f 3 = shown s ∧ 0 ≤ shown s ∧ shown s < many)
def mx_I6 (σ : am_M) : Prop := ∀ s : Nat, s < 8 → mx_I6s (σ 2 3) (σ (66 + 2 * s)) (σ (67 + 2 * s)) (σ 98) (σ 99) (σ 100) (σ 101) (σ 102) s
def mx_S6 : List Nat := [66, 67, 68, 69, 70, 71, 72, 73, 74, 75, 76, 77, 78, 79, 80, 81, 98, 99, 100, 101, 102]
/-- kinds of WAYS, how many inputs -/
def mx_ar (k : Int) : Int := if k = 1 then 0 else if 4 ≤ k ∧ k ≤ 6 then 2 else 1
def mx_wk (k : Int) : Prop := k = 1 ∨ k = 2 ∨ k = 4 ∨ k = 5 ∨ k = 6 ∨ k = 8 ∨ k = 9 ∨ k = 10 ∨ k = 11
/-- how many inputs are still to come ahead of node i -/
def mx_nd (k : Nat → Int) : Nat → Int
  | 0 => 1
  | i + 1 => mx_nd k i - 1 + mx_ar (k i)
def mx_I7 (σ : am_M) : Prop := ((σ 0 9 = 58 ∧ σ 0 10 = 62) ∨ (σ 0 9 = 62 ∧ σ 0 10 = 58)) ∧ σ (σ 0 9).toNat 3 = σ 82 8 ∧ (0 ≤ σ 82 8 ∧ σ 82 8 ≤ 120) ∧
  (∀ i : Nat, (i : Int) < σ 82 8 → σ ((σ 0 9).toNat + 1) (8 * i) = σ 115 i ∧ σ ((σ 0 9).toNat + 1) (8 * i + 1) = σ 116 i ∧ σ ((σ 0 9).toNat + 1) (8 * i + 2) = σ 117 i ∧ σ ((σ 0 9).toNat + 1) (8 * i + 3) = σ 118 i ∧ σ ((σ 0 9).toNat + 1) (8 * i + 4) = σ 119 i ∧
    σ ((σ 0 9).toNat + 1) (8 * i + 5) = σ 120 i ∧ σ ((σ 0 9).toNat + 1) (8 * i + 6) = σ 121 i ∧ σ ((σ 0 9).toNat + 1) (8 * i + 7) = σ 122 i ∧ σ ((σ 0 9).toNat + 2) i = σ 124 i ∧ mx_wk (σ 115 i) ∧ (σ 115 i < 10 → 0 ≤ σ 116 i ∧ σ 116 i < 8) ∧ (σ 122 i = 0 ∨ σ 122 i = 1) ∧ 1 ≤ mx_nd (σ 115) i) ∧
  (1 ≤ σ 82 8 → mx_nd (σ 115) (σ 82 8).toNat = 0)
def mx_S7 : List Nat := [58, 59, 60, 62, 63, 64, 115, 116, 117, 118, 119, 120, 121, 122, 124]
def mx_Q7 : List (Nat × Nat) := [(0, 9), (0, 10), (82, 8)]
def mx_I8 (σ : am_M) : Prop := σ 54 2 = σ 82 7 ∧ (0 ≤ σ 82 7 ∧ σ 82 7 ≤ 20) ∧ ∀ i : Nat, (i : Int) < σ 82 7 → σ 55 i = σ 134 i
def mx_I9 (n : Nat) (σ : am_M) : Prop := (σ 0 11 = 0 ∧ σ 82 71 = 0 ∧ n = 141) ∨ (σ 0 11 = 1 ∧ σ 82 71 = 1 ∧ n = 144 ∧ σ 82 72 = 141 ∧ σ 82 73 = 142 ∧ σ 82 74 = 143 ∧
  (mx_W (σ 15 0) (σ 15 3) (σ 15 9) (σ 16) (σ 17) (σ 18) (σ 19) (σ 20) (σ 21) (σ 22) (σ 23) (σ 24) ∧ σ 15 3 ≤ 64 ∧ mx_Mb (σ 15 3) (σ 15 9) (σ 22) (σ 25)) ∧
  (mx_Re (σ 15 3) (σ 15 9) (σ 18) (σ 19) (σ 20) (σ 21) (σ 22) (σ 23) (fun e => σ 141 (60 + e)) (fun e => σ 141 (130 + e)) (fun e => σ 141 (200 + e)) (fun e => σ 141 (270 + e)) (fun e => σ 141 (340 + e)) (σ 142) ∧ mx_Ri (σ 15 9) (σ 23) (fun e => σ 141 (410 + e)) ∧ σ 141 1 = σ 15 3 ∧ σ 141 2 = σ 15 9) ∧
  (σ 141 0 = σ 15 0 ∧ (∀ t : Nat, (t : Int) < σ 15 0 → σ 141 (20 + t) = σ 16 (4 * t) ∧ σ 141 (30 + t) = σ 16 (4 * t + 1) ∧ σ 141 (40 + t) = σ 16 (4 * t + 2) ∧ σ 141 (50 + t) = σ 16 (4 * t + 3)) ∧ ∀ c : Nat, c < 4 → σ 141 (6 + c) = σ 17 c) ∧
  (mx_Fg (σ 15 3) (σ 18) (σ 19) (σ 20) (σ 21) (σ 22) (σ 24) (σ 26) (σ 143) ∧ (∀ r : Nat, r < 7 → σ 141 (10 + r) = σ 27 r) ∧ σ 141 3 = am_w (σ 27 0 + σ 27 1 + σ 27 2 + σ 27 3 + σ 27 4 + σ 27 5 + σ 27 6)) ∧ σ 141 4 = σ 15 15 ∧ σ 141 5 = σ 15 16)
def mx_S9 : List Nat := [15, 16, 17, 18, 19, 20, 21, 22, 23, 24, 25, 26, 27, 141, 142, 143]
def mx_Q9 : List (Nat × Nat) := [(0, 11), (82, 71), (82, 72), (82, 73), (82, 74)]
/-! WAYS: kind, by which expression, inputs, place, price -/
abbrev mx_wt : Type := Int × Int × Int × Int × Int × Int
def mx_dm (g o p : Int) : Int := g * 30 + (o + 1) * 6 + p + 1
def mx_mt (had wanted : Int) : Bool := decide (wanted = -1 ∨ wanted = had)
def mx_alw (al k : Int) : Bool := decide (am_and (am_shr al k) 1 = 1)
def mx_slots (k : Int) : Nat := if k = 1 ∨ k = 3 then 1 else if k = 4 then 4 else 6
def mx_first (k : Int) : Int := if k = 1 then 1 else if k = 3 then 2 else if k = 4 then 8 else 4
/-- the price of the i-th kind of WAY of an expression, of SORT (0) and SHIP (1) of a group -/
def mx_pe (σ : am_M) (e i : Nat) : Int := mx_pr (mx_first (σ 5 e) + i) (if σ 5 e = 1 then mx_cR σ (σ 9 e).toNat else mx_cR σ (σ 7 e).toNat) (if σ 8 e < 0 then 0 else mx_cR σ (σ 8 e).toNat) (mx_cR σ (σ 9 e).toNat)
def mx_pg (σ : am_M) (g i : Nat) : Int := mx_pr (10 + i) (mx_cR σ g) 0 (mx_cR σ g)
def mx_sl (σ : am_M) (al o p : Int) (e s : Nat) : Option mx_wt :=
  if σ 5 e = 1 then (if mx_alw al 1 && mx_mt (σ 3 (4 * σ 6 e + 2).toNat) o && mx_mt (σ 3 (4 * σ 6 e + 3).toNat) p then some (1, e, -1, -1, -1, mx_pe σ e 0) else none)
  else if σ 5 e = 3 then (if mx_alw al 2 then some (2, e, mx_dm (σ 7 e) o p, -1, -1, mx_pe σ e 0) else none)
  else if mx_alw al (mx_first (σ 5 e) + (s / 2 : Nat)) && mx_mt (if s % 2 = 0 then σ 6 e else 4) p && (!decide (mx_first (σ 5 e) + (s / 2 : Nat) = 4 ∨ mx_first (σ 5 e) + (s / 2 : Nat) = 8) || decide (o = -1)) && (!decide (mx_first (σ 5 e) + (s / 2 : Nat) = 5 ∨ mx_first (σ 5 e) + (s / 2 : Nat) = 9) || mx_mt (σ 6 e) o) then
    some (mx_first (σ 5 e) + (s / 2 : Nat), e, mx_dm (σ 7 e) (if mx_first (σ 5 e) + (s / 2 : Nat) = 5 ∨ mx_first (σ 5 e) + (s / 2 : Nat) = 9 then σ 6 e else o) (if s % 2 = 0 then σ 6 e else 4),
      (if σ 8 e = -1 then -1 else mx_dm (σ 8 e) (if mx_first (σ 5 e) + (s / 2 : Nat) = 5 ∨ mx_first (σ 5 e) + (s / 2 : Nat) = 9 then σ 6 e else -1) (if s % 2 = 0 then σ 6 e else 4)), (if s % 2 = 0 then σ 6 e else 4), mx_pe σ e (s / 2)) else none
/-- from slot s on -/
def mx_we (σ : am_M) (al o p : Int) (e s : Nat) : List mx_wt := ((List.range (mx_slots (σ 5 e) - s)).map (s + ·)).filterMap (mx_sl σ al o p e)
def mx_wst (σ : am_M) (al g o p : Int) : List mx_wt := if mx_alw al 10 && mx_hc (σ 11 g.toNat) o then [(10, -1, mx_dm g (-1) p, -1, -1, mx_pg σ g.toNat 0)] else []
def mx_wsp (σ : am_M) (al g o p : Int) : List mx_wt := if mx_alw al 11 && decide (o = -1) && (decide (p = 4) || mx_hc (σ 11 g.toNat) p) then [(11, -1, mx_dm g (-1) (-1), -1, -1, mx_pg σ g.toNat 1)] else []
/-- by the members of g from number a on, t of them at most -/
def mx_wm (σ : am_M) (al g o p : Int) : Nat → Nat → List mx_wt
  | 0, _ => []
  | t + 1, a => (if σ 9 a = g then mx_we σ al o p a 0 else []) ++ mx_wm σ al g o p t (a + 1)
def mx_wl (σ : am_M) (al : Int) (d : Nat) : List mx_wt := mx_wm σ al (d / 30 : Nat) ((d % 30 / 6 : Nat) - 1) ((d % 6 : Nat) - 1) (σ 2 3).toNat 0 ++ mx_wst σ al (d / 30 : Nat) ((d % 30 / 6 : Nat) - 1) ((d % 6 : Nat) - 1) ++ mx_wsp σ al (d / 30 : Nat) ((d % 30 / 6 : Nat) - 1) ((d % 6 : Nat) - 1)
def mx_in (c : Nat → Int) (v : Int) : Int := if v = -1 then 0 else c v.toNat
def mx_sum (c : Nat → Int) (w : mx_wt) : Int := w.2.2.2.2.2 + mx_in c w.2.2.1 + mx_in c w.2.2.2.1
/-- a demand of a group as it is now -/
def mx_dd (σ : am_M) (d : Nat) : Prop := ((d / 30 : Nat) : Int) < σ 2 9 ∧ σ 10 (d / 30) = (d / 30 : Nat)
/-- COSTS: 1000000000001 stands for none -/
def mx_sol (σ : am_M) (al : Int) (c : Nat → Int) : Prop := ∀ d : Nat, mx_dd σ d → (1 ≤ c d ∧ c d ≤ 1000000000001) ∧ (∀ w ∈ mx_wl σ al d, c d ≤ mx_sum c w) ∧ (c d = 1000000000001 ∨ ∃ w ∈ mx_wl σ al d, mx_sum c w = c d)
def mx_kn (σ : am_M) (v : Int) : Prop := v = -1 ∨ σ 34 v.toNat ≠ -1
def mx_Pv (σ : am_M) : Prop := (∀ e : Nat, (e : Int) < σ 2 3 → σ 9 e ≠ -1 → ∀ i : Nat, 2 * i < mx_slots (σ 5 e) → σ 41 (3 * e + i) = mx_pe σ e i) ∧ ∀ g : Nat, (g : Int) < σ 2 9 → σ 10 g = g → σ 42 (2 * g) = mx_pg σ g 0 ∧ σ 42 (2 * g + 1) = mx_pg σ g 1
def mx_Lv (σ : am_M) : Prop := ∃ c, mx_sol σ (σ 37 5) c ∧ ∀ d : Nat, d < 1920 → σ 34 d ≠ -1 → mx_dd σ d ∧ σ 34 d = c d ∧ ∀ w ∈ mx_wl σ (σ 37 5) d, mx_kn σ w.2.2.1 ∧ mx_kn σ w.2.2.2.1
def mx_IA (t : Nat) (σ : am_M) : Prop := (0 ≤ σ 2 17 ∧ σ 2 17 ≤ 2000 * t) ∧ (-1 ≤ σ 29 4 ∧ σ 29 4 ≤ σ 2 17) ∧ (-1 ≤ σ 33 6 ∧ σ 33 6 ≤ σ 2 17) ∧ (σ 29 4 = σ 2 17 → mx_Rv σ) ∧ (σ 33 6 = σ 2 17 → mx_Rv σ ∧ mx_Pv σ ∧ mx_Lv σ) ∧ ((σ 29 2 = 31 ∧ σ 29 3 = 32) ∨ (σ 29 2 = 32 ∧ σ 29 3 = 31))
def mx_SA : List Nat := [3, 4, 5, 6, 7, 8, 9, 10, 11, 30, 34, 41, 42]
def mx_QA : List (Nat × Nat) := [(2, 0), (2, 3), (2, 9), (2, 17), (29, 2), (29, 3), (29, 4), (33, 6), (37, 5)]
def mx_Inv (t n : Nat) (σ : am_M) : Prop := mx_I1 σ ∧ mx_I2 σ ∧ mx_I3 σ ∧ mx_I4 σ ∧ mx_I5 σ ∧ mx_I6 σ ∧ mx_I7 σ ∧ mx_I8 σ ∧ mx_I9 n σ ∧ mx_IA t σ
section
variable {C : List Nat} {P : List (Nat × Nat)} {σ σ' : am_M}
theorem mx_I1_fr (h : mx_Fq C P σ σ') (hd : mx_dj C P mx_S1 mx_Q1 = true) (hI : mx_I1 σ) : mx_I1 σ' := by
  unfold mx_I1 at *
  rw [mx_dj_c h hd (i := 3) (by decide), mx_dj_c h hd (i := 4) (by decide), mx_dj_c h hd (i := 5) (by decide), mx_dj_c h hd (i := 6) (by decide), mx_dj_c h hd (i := 7) (by decide), mx_dj_c h hd (i := 8) (by decide), mx_dj_c h hd (i := 9) (by decide), mx_dj_c h hd (i := 10) (by decide), mx_dj_c h hd (i := 11) (by decide), mx_dj_c h hd (i := 12) (by decide), mx_dj_c h hd (i := 84) (by decide), mx_dj_c h hd (i := 85) (by decide), mx_dj_c h hd (i := 86) (by decide), mx_dj_c h hd (i := 87) (by decide), mx_dj_c h hd (i := 88) (by decide), mx_dj_c h hd (i := 89) (by decide), mx_dj_c h hd (i := 90) (by decide), mx_dj_c h hd (i := 91) (by decide), mx_dj_c h hd (i := 92) (by decide), mx_dj_c h hd (i := 93) (by decide), mx_dj_c h hd (i := 94) (by decide), mx_dj_c h hd (i := 95) (by decide), mx_dj_f h hd (i := 2) (j := 0) (by decide), mx_dj_f h hd (i := 2) (j := 3) (by decide), mx_dj_f h hd (i := 2) (j := 9) (by decide), mx_dj_f h hd (i := 82) (j := 0) (by decide), mx_dj_f h hd (i := 82) (j := 1) (by decide), mx_dj_f h hd (i := 82) (j := 2) (by decide)]
  exact hI
theorem mx_I2_fr (h : mx_Fq C P σ σ') (hd : mx_dj C P mx_S2 mx_Q2 = true) (hI : mx_I2 σ) : mx_I2 σ' := by
  unfold mx_I2 at *
  rw [mx_dj_c h hd (i := 5) (by decide), mx_dj_c h hd (i := 6) (by decide), mx_dj_c h hd (i := 7) (by decide), mx_dj_c h hd (i := 8) (by decide), mx_dj_c h hd (i := 9) (by decide), mx_dj_c h hd (i := 11) (by decide), mx_dj_c h hd (i := 13) (by decide), mx_dj_c h hd (i := 14) (by decide), mx_dj_c h hd (i := 96) (by decide), mx_dj_c h hd (i := 97) (by decide), mx_dj_f h hd (i := 2) (j := 3) (by decide), mx_dj_f h hd (i := 82) (j := 3) (by decide)]
  exact hI
theorem mx_I3_fr (h : mx_Fq C P σ σ') (hd : mx_dj C P [] [(82, 4), (82, 5), (2, 15), (2, 16)] = true) (hI : mx_I3 σ) : mx_I3 σ' := by
  unfold mx_I3 at *
  rw [mx_dj_f h hd (i := 82) (j := 4) (by decide), mx_dj_f h hd (i := 82) (j := 5) (by decide), mx_dj_f h hd (i := 2) (j := 15) (by decide), mx_dj_f h hd (i := 2) (j := 16) (by decide)]
  exact hI
theorem mx_I4_fr (h : mx_Fq C P σ σ') (hd : mx_dj C P [] [(82, 6), (0, 12)] = true) (hI : mx_I4 σ) : mx_I4 σ' := by
  unfold mx_I4 at *
  rw [mx_dj_f h hd (i := 82) (j := 6) (by decide), mx_dj_f h hd (i := 0) (j := 12) (by decide)]
  exact hI
theorem mx_I5_fr (h : mx_Fq C P σ σ') (hd : mx_dj C P [57, 83] [] = true) (hI : mx_I5 σ) : mx_I5 σ' := by
  unfold mx_I5 at *
  rw [mx_dj_c h hd (i := 57) (by decide), mx_dj_c h hd (i := 83) (by decide)]
  exact hI
theorem mx_I6_fr (h : mx_Fq C P σ σ') (hd : mx_dj C P mx_S6 [(2, 3)] = true) (hI : mx_I6 σ) : mx_I6 σ' := by
  intro s hs
  rw [mx_dj_f h hd (i := 2) (j := 3) (by decide), mx_dj_c h hd (i := 98) (by decide), mx_dj_c h hd (i := 99) (by decide), mx_dj_c h hd (i := 100) (by decide), mx_dj_c h hd (i := 101) (by decide), mx_dj_c h hd (i := 102) (by decide)]
  have a : σ' (66 + 2 * s) = σ (66 + 2 * s) := mx_dj_c h hd (by unfold mx_S6; simp; omega)
  have b : σ' (67 + 2 * s) = σ (67 + 2 * s) := mx_dj_c h hd (by unfold mx_S6; simp; omega)
  rw [a, b]
  exact hI s hs
theorem mx_I7_fr (h : mx_Fq C P σ σ') (hd : mx_dj C P mx_S7 mx_Q7 = true) (hI : mx_I7 σ) : mx_I7 σ' := by
  unfold mx_I7 at *
  have e9 : σ' 0 9 = σ 0 9 := mx_dj_f h hd (by decide)
  have key : σ' (σ 0 9).toNat = σ (σ 0 9).toNat ∧ σ' ((σ 0 9).toNat + 1) = σ ((σ 0 9).toNat + 1) ∧ σ' ((σ 0 9).toNat + 2) = σ ((σ 0 9).toNat + 2) := by
    rcases hI.1 with q | q <;> rw [q.1]
    · exact ⟨mx_dj_c h hd (i := 58) (by decide), mx_dj_c h hd (i := 59) (by decide), mx_dj_c h hd (i := 60) (by decide)⟩
    · exact ⟨mx_dj_c h hd (i := 62) (by decide), mx_dj_c h hd (i := 63) (by decide), mx_dj_c h hd (i := 64) (by decide)⟩
  rw [e9, key.1, key.2.1, key.2.2, mx_dj_f h hd (i := 0) (j := 10) (by decide), mx_dj_f h hd (i := 82) (j := 8) (by decide), mx_dj_c h hd (i := 115) (by decide), mx_dj_c h hd (i := 116) (by decide), mx_dj_c h hd (i := 117) (by decide), mx_dj_c h hd (i := 118) (by decide), mx_dj_c h hd (i := 119) (by decide), mx_dj_c h hd (i := 120) (by decide), mx_dj_c h hd (i := 121) (by decide), mx_dj_c h hd (i := 122) (by decide), mx_dj_c h hd (i := 124) (by decide)]
  exact hI
theorem mx_I8_fr (h : mx_Fq C P σ σ') (hd : mx_dj C P [55, 134] [(54, 2), (82, 7)] = true) (hI : mx_I8 σ) : mx_I8 σ' := by
  unfold mx_I8 at *
  rw [mx_dj_c h hd (i := 55) (by decide), mx_dj_c h hd (i := 134) (by decide), mx_dj_f h hd (i := 54) (j := 2) (by decide), mx_dj_f h hd (i := 82) (j := 7) (by decide)]
  exact hI
theorem mx_I9_fr {n : Nat} (h : mx_Fq C P σ σ') (hd : mx_dj C P mx_S9 mx_Q9 = true) (hI : mx_I9 n σ) : mx_I9 n σ' := by
  unfold mx_I9 at *
  rw [mx_dj_c h hd (i := 15) (by decide), mx_dj_c h hd (i := 16) (by decide), mx_dj_c h hd (i := 17) (by decide), mx_dj_c h hd (i := 18) (by decide), mx_dj_c h hd (i := 19) (by decide), mx_dj_c h hd (i := 20) (by decide), mx_dj_c h hd (i := 21) (by decide), mx_dj_c h hd (i := 22) (by decide), mx_dj_c h hd (i := 23) (by decide), mx_dj_c h hd (i := 24) (by decide), mx_dj_c h hd (i := 25) (by decide), mx_dj_c h hd (i := 26) (by decide), mx_dj_c h hd (i := 27) (by decide), mx_dj_c h hd (i := 141) (by decide), mx_dj_c h hd (i := 142) (by decide), mx_dj_c h hd (i := 143) (by decide), mx_dj_f h hd (i := 0) (j := 11) (by decide), mx_dj_f h hd (i := 82) (j := 71) (by decide), mx_dj_f h hd (i := 82) (j := 72) (by decide), mx_dj_f h hd (i := 82) (j := 73) (by decide), mx_dj_f h hd (i := 82) (j := 74) (by decide)]
  exact hI
/-- what WAYS read -/
def mx_SW : List Nat := [3, 4, 5, 6, 7, 8, 9, 10, 11]
def mx_QW : List (Nat × Nat) := [(2, 3), (2, 9)]
theorem mx_cR_fr (h : mx_Fq C P σ σ') (hd : mx_dj C P mx_SW mx_QW = true) : mx_cR σ' = mx_cR σ := by
  unfold mx_cR
  rw [mx_dj_c h hd (i := 3) (by decide), mx_dj_c h hd (i := 4) (by decide), mx_dj_c h hd (i := 5) (by decide), mx_dj_c h hd (i := 6) (by decide), mx_dj_c h hd (i := 7) (by decide), mx_dj_c h hd (i := 8) (by decide), mx_dj_c h hd (i := 9) (by decide), mx_dj_f h hd (i := 2) (j := 3) (by decide)]
theorem mx_wl_fr (h : mx_Fq C P σ σ') (hd : mx_dj C P mx_SW mx_QW = true) (al : Int) (d : Nat) : mx_wl σ' al d = mx_wl σ al d := by
  have e := mx_cR_fr h hd
  have e3 : σ' 3 = σ 3 := mx_dj_c h hd (by decide)
  have e5 : σ' 5 = σ 5 := mx_dj_c h hd (by decide)
  have e6 : σ' 6 = σ 6 := mx_dj_c h hd (by decide)
  have e7 : σ' 7 = σ 7 := mx_dj_c h hd (by decide)
  have e8 : σ' 8 = σ 8 := mx_dj_c h hd (by decide)
  have e9 : σ' 9 = σ 9 := mx_dj_c h hd (by decide)
  have e11 : σ' 11 = σ 11 := mx_dj_c h hd (by decide)
  have e23 : σ' 2 3 = σ 2 3 := mx_dj_f h hd (by decide)
  have p1 : ∀ e i, mx_pe σ' e i = mx_pe σ e i := fun x i => by unfold mx_pe; rw [e, e5, e7, e8, e9]
  have p2 : ∀ g i, mx_pg σ' g i = mx_pg σ g i := fun x i => by unfold mx_pg; rw [e]
  have s1 : ∀ o p x, mx_sl σ' al o p x = mx_sl σ al o p x := fun o p x => funext fun s => by
    unfold mx_sl
    rw [e3, e5, e6, e7, e8]
    simp only [p1]
  have w1 : ∀ o p x s, mx_we σ' al o p x s = mx_we σ al o p x s := fun o p x s => by unfold mx_we; rw [e5, s1]
  have m1 : ∀ g o p t a, mx_wm σ' al g o p t a = mx_wm σ al g o p t a := by
    intro g o p t
    induction t with
    | zero => intro a; rfl
    | succ t ih => intro a; show (if σ' 9 a = g then mx_we σ' al o p a 0 else []) ++ mx_wm σ' al g o p t (a + 1) = _; rw [e9, w1, ih]; rfl
  unfold mx_wl mx_wst mx_wsp
  rw [e11, e23, m1, p2, p2]
theorem mx_sol_fr (h : mx_Fq C P σ σ') (hd : mx_dj C P mx_SW mx_QW = true) {al : Int} {c : Nat → Int} (hs : mx_sol σ al c) : mx_sol σ' al c := by
  intro d hdd
  unfold mx_dd at hdd
  rw [mx_dj_c h hd (i := 10) (by decide), mx_dj_f h hd (i := 2) (j := 9) (by decide)] at hdd
  rw [mx_wl_fr h hd]
  exact hs d hdd
theorem mx_IA_of {t : Nat} (f217 : σ' 2 17 = σ 2 17) (f294 : σ' 29 4 = σ 29 4) (f336 : σ' 33 6 = σ 33 6) (f23 : σ' 2 3 = σ 2 3) (f29 : σ' 2 9 = σ 2 9) (f375 : σ' 37 5 = σ 37 5) (c5 : σ' 5 = σ 5) (c7 : σ' 7 = σ 7) (c8 : σ' 8 = σ 8) (c9 : σ' 9 = σ 9) (c10 : σ' 10 = σ 10)
    (c30 : σ' 30 = σ 30) (c34 : σ' 34 = σ 34) (c41 : σ' 41 = σ 41) (c42 : σ' 42 = σ 42) (g2 : σ' 29 2 = σ 29 2) (g3 : σ' 29 3 = σ 29 3) (eR : mx_cR σ' = mx_cR σ) (eW : ∀ al d, mx_wl σ' al d = mx_wl σ al d) (hI : mx_IA t σ) : mx_IA t σ' := by
  obtain ⟨h1, h2, h3, h4, h5, h6⟩ := hI
  have rv : mx_Rv σ → mx_Rv σ' := fun q i hi => by rw [c30, eR]; exact q i hi
  refine ⟨by rw [f217]; exact h1, by rw [f294, f217]; exact h2, by rw [f336, f217]; exact h3, fun q => rv (h4 (by rw [← f294, ← f217]; exact q)), fun q => ?_, by rw [g2, g3]; exact h6⟩
  obtain ⟨r1, r2, r3⟩ := h5 (by rw [← f336, ← f217]; exact q)
  refine ⟨rv r1, ⟨fun e he hH i hi => ?_, fun g hg hT => ?_⟩, ?_⟩
  · have p1 : mx_pe σ' e i = mx_pe σ e i := by unfold mx_pe; rw [eR, c5, c7, c8, c9]
    rw [c41, p1]
    rw [f23] at he
    rw [c9] at hH
    rw [c5] at hi
    exact r2.1 e he hH i hi
  · have p2 : ∀ i, mx_pg σ' g i = mx_pg σ g i := fun i => by unfold mx_pg; rw [eR]
    rw [c42, p2, p2]
    rw [f29] at hg
    rw [c10] at hT
    exact r2.2 g hg hT
  · obtain ⟨c, s1, s2⟩ := r3
    have dd : ∀ d, mx_dd σ' d → mx_dd σ d := fun d q => by unfold mx_dd at q ⊢; rw [f29, c10] at q; exact q
    refine ⟨c, fun d hd => by rw [f375, eW]; exact s1 d (dd d hd), fun d hd2 hk => ?_⟩
    rw [c34] at hk ⊢
    obtain ⟨a1, a2, a3⟩ := s2 d hd2 hk
    refine ⟨by unfold mx_dd at a1 ⊢; rw [f29, c10]; exact a1, a2, fun w hw => ?_⟩
    rw [f375, eW] at hw
    have := a3 w hw
    unfold mx_kn at this ⊢
    rw [c34]
    exact this
/-- what was reckoned is out of date -/
theorem mx_IA_new {t : Nat} (hI : mx_IA t σ) (h1 : σ 2 17 < σ' 2 17) (h2 : σ' 2 17 ≤ 2000 * (t + 1)) (f294 : σ' 29 4 = σ 29 4) (f336 : σ' 33 6 = σ 33 6) (g2 : σ' 29 2 = σ 29 2) (g3 : σ' 29 3 = σ 29 3) : mx_IA (t + 1) σ' := by
  obtain ⟨i1, i2, i3, -, -, i6⟩ := hI
  exact ⟨by omega, by omega, by omega, fun q => by omega, fun q => by omega, by rw [g2, g3]; exact i6⟩
theorem mx_IA_fr {t : Nat} (h : mx_Fq C P σ σ') (hd : mx_dj C P mx_SA mx_QA = true) (hI : mx_IA t σ) : mx_IA t σ' := by
  have hW : mx_dj C P mx_SW mx_QW = true := by
    unfold mx_dj at hd ⊢
    rw [Bool.and_eq_true] at hd ⊢
    refine ⟨List.all_eq_true.mpr fun i hi => List.all_eq_true.mp hd.1 i ?_, List.all_eq_true.mpr fun i hi => List.all_eq_true.mp hd.2 i ?_⟩
    · revert hi; revert i; decide
    · revert hi; revert i
      unfold mx_QW mx_QA
      intro i hi
      simp only [List.mem_cons, List.not_mem_nil, or_false] at hi ⊢
      rcases hi with q | q <;> simp [q]
  exact mx_IA_of (mx_dj_f h hd (by decide)) (mx_dj_f h hd (by decide)) (mx_dj_f h hd (by decide)) (mx_dj_f h hd (by decide)) (mx_dj_f h hd (by decide)) (mx_dj_f h hd (by decide))
    (mx_dj_c h hd (by decide)) (mx_dj_c h hd (by decide)) (mx_dj_c h hd (by decide)) (mx_dj_c h hd (by decide)) (mx_dj_c h hd (by decide)) (mx_dj_c h hd (by decide)) (mx_dj_c h hd (by decide)) (mx_dj_c h hd (by decide)) (mx_dj_c h hd (by decide))
    (mx_dj_f h hd (by decide)) (mx_dj_f h hd (by decide)) (mx_cR_fr h hW) (fun al d => mx_wl_fr h hW al d) hI
end
