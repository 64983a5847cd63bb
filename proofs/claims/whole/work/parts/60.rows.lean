/-! a model that is well formed; ROWS of its groups -/
def mx_kd (k : Int) : Prop := k = 1 ∨ k = 3 ∨ k = 4 ∨ k = 5 ∨ k = 6
def mx_tb (tn : Int) (TF D : Nat → Int) : Prop := (0 ≤ tn ∧ tn ≤ 8) ∧ (∀ t : Nat, (t : Int) < tn → (1 ≤ TF (4 * t) ∧ TF (4 * t) ≤ 1000000) ∧ (1 ≤ TF (4 * t + 1) ∧ TF (4 * t + 1) ≤ 15) ∧ (-1 ≤ TF (4 * t + 2) ∧ TF (4 * t + 2) ≤ 3) ∧ (0 ≤ TF (4 * t + 3) ∧ TF (4 * t + 3) ≤ 4)) ∧ ∀ c : Nat, c < 4 → 1 ≤ D c ∧ D c ≤ 1000000
/-- kinds, what they are by, what they are of -/
def mx_ke (tn : Int) (K P X Y H : Nat → Int) (e : Nat) : Prop := mx_kd (K e) ∧ (0 ≤ P e ∧ P e < 8) ∧ (K e = 1 → P e < tn) ∧ (4 ≤ K e → P e < 4) ∧ (H e = -1 → X e = -1 ∧ Y e = -1) ∧ (H e ≠ -1 → (K e = 1 ↔ X e = -1) ∧ (K e < 5 ↔ Y e = -1))
def mx_ks (tn m : Int) (K P X Y H : Nat → Int) : Prop := ∀ e : Nat, (e : Int) < m → mx_ke tn K P X Y H e
def mx_na (m : Int) (K P X Y H : Nat → Int) : Prop := ∀ e f : Nat, e < f → (f : Int) < m → H e ≠ -1 → H f ≠ -1 → ¬ (K e = K f ∧ P e = P f ∧ X e = X f ∧ Y e = Y f)
def mx_nt (m g : Int) (H T : Nat → Int) : Prop := ∀ i : Nat, (i : Int) < g → T i = i → ∃ e : Nat, (e : Int) < m ∧ H e = i
def mx_le (X Y H : Nat → Int) (e : Nat) : Prop := (X e ≠ -1 → ∃ f : Nat, f < e ∧ H f = X e) ∧ (Y e ≠ -1 → ∃ f : Nat, f < e ∧ H f = Y e)
def mx_ls (m : Int) (X Y H : Nat → Int) : Prop := ∀ e : Nat, (e : Int) < m → H e ≠ -1 → mx_le X Y H e
def mx_tc (TF C : Nat → Int) (k o x : Int) : Int := if k = 1 then TF (4 * o + 1).toNat else if 0 ≤ x then C x.toNat else 0
def mx_yc (C : Nat → Int) (y : Int) : Int := if 0 ≤ y then C y.toNat else 0
def mx_cs (m g : Int) (TF K P X Y H T C : Nat → Int) : Prop := (∀ i : Nat, (i : Int) < g → C (T i).toNat = C i ∧ 0 ≤ C i ∧ C i ≤ 15) ∧ ∀ e : Nat, (e : Int) < m → H e ≠ -1 → C (H e).toNat = mx_cb (K e) (P e) (mx_tc TF C (K e) (P e) (X e)) (mx_yc C (Y e)) ∧ mx_ft (K e) (P e) (mx_tc TF C (K e) (P e) (X e)) (mx_yc C (Y e)) = true
def mx_W (tn m g : Int) (TF D K P X Y H T C : Nat → Int) : Prop :=
  mx_tb tn TF D ∧ (0 ≤ g ∧ g ≤ m ∧ m ≤ 143) ∧ mx_sh m g K X Y H T ∧ mx_ks tn m K P X Y H ∧ mx_na m K P X Y H ∧ mx_nt m g H T ∧ mx_ls m X Y H ∧ mx_cs m g TF K P X Y H T C
def mx_rb (TF D : Nat → Int) (k o a b : Int) : Int :=
  if k = 1 then TF (4 * o).toNat else if k = 3 then (if Int.tmod o 2 = 0 then Int.tdiv a 10 else Int.tdiv a 2) else if k = 4 then am_mn a (D o.toNat)
  else if k = 6 then am_mn a (am_mn 1000000 (am_mx 1 (Int.tdiv (a * b) (D o.toNat)))) else am_mn 1000000 (am_mx 1 (Int.tdiv (a * b) (D o.toNat)))
/-- ROWS by the first e expressions; 0: not yet -/
def mx_rF (TF D K P X Y H : Nat → Int) : Nat → Nat → Int
  | 0 => fun _ => 0
  | e + 1 => fun i => if H e = i ∧ mx_rF TF D K P X Y H e i = 0 then am_mx 1 (mx_rb TF D (K e) (P e) (if X e < 0 then 0 else mx_rF TF D K P X Y H e (X e).toNat) (if Y e < 0 then 0 else mx_rF TF D K P X Y H e (Y e).toNat)) else mx_rF TF D K P X Y H e i
/-- the first expression of a group -/
def mx_lF (H : Nat → Int) : Nat → Nat → Int
  | 0 => fun _ => -1
  | e + 1 => fun i => if H e = i ∧ mx_lF H e i = -1 then (e : Int) else mx_lF H e i
theorem mx_mx_ge {a b : Int} : a ≤ am_mx a b ∧ b ≤ am_mx a b := by unfold am_mx; split <;> omega
theorem mx_mn_l {a b : Int} : am_mn a b ≤ a ∧ am_mn a b ≤ b := by unfold am_mn; split <;> omega
theorem mx_tdiv_rg {a b : Int} (ha : 0 ≤ a) (hb : 0 ≤ b) : 0 ≤ Int.tdiv a b ∧ Int.tdiv a b ≤ a := by
  rw [Int.tdiv_eq_ediv_of_nonneg ha]
  refine ⟨Int.ediv_nonneg ha hb, ?_⟩
  rcases Int.lt_or_le 0 b with h | h
  · exact Int.ediv_le_self _ ha
  · have : b = 0 := by omega
    subst this
    rw [Int.ediv_zero]; exact ha
section
variable {tn m g : Int} {TF D K P X Y H T C : Nat → Int}
theorem mx_rF_S (e i : Nat) : mx_rF TF D K P X Y H (e + 1) i = if H e = i ∧ mx_rF TF D K P X Y H e i = 0 then am_mx 1 (mx_rb TF D (K e) (P e) (if X e < 0 then 0 else mx_rF TF D K P X Y H e (X e).toNat) (if Y e < 0 then 0 else mx_rF TF D K P X Y H e (Y e).toNat)) else mx_rF TF D K P X Y H e i := rfl
theorem mx_lF_S (e i : Nat) : mx_lF H (e + 1) i = if H e = i ∧ mx_lF H e i = -1 then (e : Int) else mx_lF H e i := rfl
theorem mx_rF_rg (hT : mx_tb tn TF D) (hK : mx_ks tn m K P X Y H) : ∀ e : Nat, (e : Int) ≤ m → ∀ i, 0 ≤ mx_rF TF D K P X Y H e i ∧ mx_rF TF D K P X Y H e i ≤ 1000000 := by
  intro e
  induction e with
  | zero => intro _ i; show (0 : Int) ≤ 0 ∧ (0 : Int) ≤ 1000000; decide
  | succ e ih =>
    intro he i
    have ih := ih (by omega)
    rw [mx_rF_S]
    split
    · refine ⟨Int.le_trans (by decide) mx_mx_ge.1, ?_⟩
      obtain ⟨k1, k2, k3, k4, k5⟩ := hK e (by omega)
      have ha : 0 ≤ (if X e < 0 then 0 else mx_rF TF D K P X Y H e (X e).toNat) ∧ (if X e < 0 then 0 else mx_rF TF D K P X Y H e (X e).toNat) ≤ 1000000 := by
        split
        · exact ⟨Int.le_refl _, by decide⟩
        · exact ih _
      generalize (if X e < 0 then 0 else mx_rF TF D K P X Y H e (X e).toNat) = a at *
      generalize (if Y e < 0 then 0 else mx_rF TF D K P X Y H e (Y e).toNat) = b at *
      have : mx_rb TF D (K e) (P e) a b ≤ 1000000 := by
        unfold mx_rb
        split
        · rename_i q
          have := hT.2.1 (P e).toNat (by have := k3 q; omega)
          have e1 : (4 * P e).toNat = 4 * (P e).toNat := by omega
          rw [e1]; omega
        · split
          · split
            · have := mx_tdiv_rg ha.1 (b := 10) (by decide); omega
            · have := mx_tdiv_rg ha.1 (b := 2) (by decide); omega
          · split
            · have := mx_mn_l (a := a) (b := D (P e).toNat); omega
            · split
              · have := mx_mn_l (a := a) (b := am_mn 1000000 (am_mx 1 (Int.tdiv (a * b) (D (P e).toNat)))); omega
              · exact mx_mn_l.1
      unfold am_mx
      split <;> omega
    · exact ih i
theorem mx_rF_iff (e i : Nat) : mx_rF TF D K P X Y H e i ≠ 0 ↔ ∃ f : Nat, f < e ∧ H f = i := by
  induction e with
  | zero => constructor
            · intro h; exact absurd rfl h
            · rintro ⟨f, h, -⟩; omega
  | succ e ih =>
    rw [mx_rF_S]
    by_cases q : H e = i ∧ mx_rF TF D K P X Y H e i = 0
    · rw [if_pos q]
      constructor
      · intro _; exact ⟨e, by omega, q.1⟩
      · intro _
        have := (mx_mx_ge (a := 1) (b := mx_rb TF D (K e) (P e) (if X e < 0 then 0 else mx_rF TF D K P X Y H e (X e).toNat) (if Y e < 0 then 0 else mx_rF TF D K P X Y H e (Y e).toNat))).1
        omega
    · rw [if_neg q, ih]
      constructor
      · rintro ⟨f, h1, h2⟩; exact ⟨f, by omega, h2⟩
      · rintro ⟨f, h1, h2⟩
        by_cases r : f = e
        · subst r
          have : mx_rF TF D K P X Y H f i ≠ 0 := fun z => q ⟨h2, z⟩
          exact ih.mp this
        · exact ⟨f, by omega, h2⟩
theorem mx_lF_iff (e i : Nat) : mx_lF H e i ≠ -1 ↔ ∃ f : Nat, f < e ∧ H f = i := by
  induction e with
  | zero => constructor
            · intro h; exact absurd rfl h
            · rintro ⟨f, h, -⟩; omega
  | succ e ih =>
    rw [mx_lF_S]
    by_cases q : H e = i ∧ mx_lF H e i = -1
    · rw [if_pos q]
      constructor
      · intro _; exact ⟨e, by omega, q.1⟩
      · intro _; omega
    · rw [if_neg q, ih]
      constructor
      · rintro ⟨f, h1, h2⟩; exact ⟨f, by omega, h2⟩
      · rintro ⟨f, h1, h2⟩
        by_cases r : f = e
        · subst r
          have : mx_lF H f i ≠ -1 := fun z => q ⟨h2, z⟩
          exact ih.mp this
        · exact ⟨f, by omega, h2⟩
theorem mx_lr (e i : Nat) : mx_lF H e i = -1 ↔ mx_rF TF D K P X Y H e i = 0 := by
  have h1 := mx_lF_iff (H := H) e i
  have h2 := mx_rF_iff (TF := TF) (D := D) (K := K) (P := P) (X := X) (Y := Y) (H := H) e i
  constructor
  · intro h
    by_cases q : mx_rF TF D K P X Y H e i = 0
    · exact q
    · exact absurd h (h1.mpr (h2.mp q))
  · intro h
    by_cases q : mx_lF H e i = -1
    · exact q
    · exact absurd h (h2.mpr (h1.mp q))
end
/-- ROWS, the first expression of a group -/
def mx_Rw (m : Int) (TF D K P X Y H : Nat → Int) : Nat → Int := mx_rF TF D K P X Y H m.toNat
def mx_Ls (m : Int) (H : Nat → Int) : Nat → Int := mx_lF H m.toNat
