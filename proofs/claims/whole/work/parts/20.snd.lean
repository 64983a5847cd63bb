/-! SOUNDNESS: what the abstract machine does, the machine does -/
def am_cv (ka : Nat → Nat) (vF : Value) (ad : Nat → Nat) (v : am_V) : Value :=
  bif Nat.beq v.1 0 then .int (Int32.ofInt v.2) else bif Nat.beq v.1 1 then .long (Int64.ofInt v.2) else bif Nat.beq v.1 17 then vF else if v.2 < 0 then .null else .ref (bif Nat.blt v.2.toNat 1000 then ad v.2.toNat else ka v.2.toNat)
def am_isr (t : Nat) : Bool := (Nat.ble 11 t && Nat.ble t 15) || (Nat.ble 100 t && Nat.blt t 111)
def am_ok (n : Nat) (v : am_V) : Prop := (v.1 = 0 ∧ am_r32 v.2) ∨ (v.1 = 1 ∧ am_r64 v.2) ∨ (v.1 = 16 ∧ 2000 ≤ v.2 ∧ v.2 < 2008) ∨ v.1 = 17 ∨ (v.1 = 21 ∧ 1000 ≤ v.2 ∧ v.2 < 1007) ∨ (v.1 = 23 ∧ 1100 ≤ v.2 ∧ v.2 < 1108) ∨ (am_isr v.1 = true ∧ (v.2 = -1 ∨ (0 ≤ v.2 ∧ v.2 < (n : Int) ∧ am_tag v.2.toNat = v.1)))
theorem am_ok_i {n : Nat} {z : Int} (h : am_ok n (0, z)) : am_r32 z := by
  unfold am_ok at h
  dsimp only at h
  rcases h with h | h | h | h | h | h | h
  · exact h.2
  all_goals first | exact absurd h.1 (by decide) | exact absurd h (by decide)
theorem am_ok_l {n : Nat} {z : Int} (h : am_ok n (1, z)) : am_r64 z := by
  unfold am_ok at h
  dsimp only at h
  rcases h with h | h | h | h | h | h | h
  · exact absurd h.1 (by decide)
  · exact h.2
  all_goals first | exact absurd h.1 (by decide) | exact absurd h (by decide)
theorem am_ok_r {n t : Nat} {z : Int} (ht : am_isr t = true) (h : am_ok n (t, z)) : z = -1 ∨ (0 ≤ z ∧ z < (n : Int) ∧ am_tag z.toNat = t) := by
  unfold am_ok at h
  dsimp only at h
  rcases h with h | h | h | h | h | h | h
  · rw [h.1] at ht; exact absurd ht (by decide)
  · rw [h.1] at ht; exact absurd ht (by decide)
  · rw [h.1] at ht; exact absurd ht (by decide)
  · rw [h] at ht; exact absurd ht (by decide)
  · rw [h.1] at ht; exact absurd ht (by decide)
  · rw [h.1] at ht; exact absurd ht (by decide)
  · exact h.2
theorem am_ok_up {n n' : Nat} (hn : n ≤ n') {v : am_V} (h : am_ok n v) : am_ok n' v := by
  rcases h with h | h | h | h | h | h | h
  · exact Or.inl h
  · exact Or.inr (Or.inl h)
  · exact Or.inr (Or.inr (Or.inl h))
  · exact Or.inr (Or.inr (Or.inr (Or.inl h)))
  · exact Or.inr (Or.inr (Or.inr (Or.inr (Or.inl h))))
  · exact Or.inr (Or.inr (Or.inr (Or.inr (Or.inr (Or.inl h)))))
  · refine Or.inr (Or.inr (Or.inr (Or.inr (Or.inr (Or.inr ⟨h.1, ?_⟩)))))
    rcases h.2 with h | h
    · exact Or.inl h
    · exact Or.inr ⟨h.1, by omega, h.2.2⟩
theorem am_ok_0 {n : Nat} {z : Int} (h : am_r32 z) : am_ok n (0, z) := Or.inl ⟨rfl, h⟩
theorem am_ok_1 {n : Nat} {z : Int} (h : am_r64 z) : am_ok n (1, z) := Or.inr (Or.inl ⟨rfl, h⟩)
theorem am_ok_ref {n t : Nat} {z : Int} (ht : am_isr t = true) (h : z = -1 ∨ (0 ≤ z ∧ z < (n : Int) ∧ am_tag z.toNat = t)) : am_ok n (t, z) := Or.inr (Or.inr (Or.inr (Or.inr (Or.inr (Or.inr ⟨ht, h⟩)))))
section CV
variable {ka : Nat → Nat} {vF : Value} {ad : Nat → Nat}
theorem am_cv_i (z : Int) : am_cv ka vF ad (0, z) = .int (Int32.ofInt z) := rfl
theorem am_cv_l (z : Int) : am_cv ka vF ad (1, z) = .long (Int64.ofInt z) := rfl
theorem am_isr_ne {t : Nat} (h : am_isr t = true) : Nat.beq t 0 = false ∧ Nat.beq t 1 = false ∧ Nat.beq t 17 = false := by
  refine ⟨?_, ?_, ?_⟩ <;> (cases q : Nat.beq t _ with
    | false => rfl
    | true => rw [Nat.eq_of_beq_eq_true q] at h; exact absurd h (by decide))
theorem am_cv_r {t : Nat} {z : Int} (ht : am_isr t = true) (h0 : ¬ z < 0) (h1 : z < 1000) : am_cv ka vF ad (t, z) = .ref (ad z.toNat) := by
  obtain ⟨e0, e1, e2⟩ := am_isr_ne ht
  unfold am_cv
  dsimp only
  rw [e0, e1, e2]
  show (if z < 0 then _ else _) = _
  rw [if_neg h0]
  have : Nat.blt z.toNat 1000 = true := Nat.ble_eq_true_of_le (by omega)
  rw [this]
  rfl
theorem am_cv_null {t : Nat} (ht : am_isr t = true) : am_cv ka vF ad (t, -1) = .null := by
  obtain ⟨e0, e1, e2⟩ := am_isr_ne ht
  unfold am_cv
  dsimp only
  rw [e0, e1, e2]
  rfl
theorem am_cv_k {t : Nat} {z : Int} (ht : t = 16 ∨ t = 21 ∨ t = 23) (h : 1000 ≤ z) : am_cv ka vF ad (t, z) = .ref (ka z.toNat) := by
  have e : Nat.blt z.toNat 1000 = false := by
    cases q : Nat.blt z.toNat 1000 with
    | false => rfl
    | true => exact absurd (Nat.le_of_ble_eq_true q) (by omega)
  have h0 : ¬ z < 0 := by omega
  rcases ht with rfl | rfl | rfl
  all_goals
    show (if z < 0 then Value.null else .ref (bif Nat.blt z.toNat 1000 then ad z.toNat else ka z.toNat)) = _
    rw [if_neg h0, e]
    rfl
theorem am_cv_cat (hF : vF.category = 1) (v : am_V) : (am_cv ka vF ad v).category = bif Nat.beq v.1 1 then 2 else 1 := by
  obtain ⟨t, z⟩ := v
  unfold am_cv
  dsimp only
  cases h0 : Nat.beq t 0 with
  | true =>
    rw [Nat.eq_of_beq_eq_true h0]
    rfl
  | false =>
    cases h1 : Nat.beq t 1 with
    | true => rfl
    | false =>
      cases h2 : Nat.beq t 17 with
      | true => exact hF
      | false =>
        show Value.category (if z < 0 then _ else _) = 1
        split <;> rfl
theorem am_cv_ext {ad' : Nat → Nat} {n : Nat} (h : ∀ i, i < n → ad' i = ad i) {v : am_V} (hv : am_ok n v) : am_cv ka vF ad' v = am_cv ka vF ad v := by
  obtain ⟨t, z⟩ := v
  unfold am_cv
  dsimp only
  cases h0 : Nat.beq t 0 with
  | true => rfl
  | false =>
    cases h1 : Nat.beq t 1 with
    | true => rfl
    | false =>
      cases h2 : Nat.beq t 17 with
      | true => rfl
      | false =>
        show (if z < 0 then Value.null else .ref (bif Nat.blt z.toNat 1000 then ad' z.toNat else ka z.toNat)) = (if z < 0 then Value.null else .ref (bif Nat.blt z.toNat 1000 then ad z.toNat else ka z.toNat))
        by_cases hz : z < 0
        · rw [if_pos hz, if_pos hz]
        · rw [if_neg hz, if_neg hz]
          cases hb : Nat.blt z.toNat 1000 with
          | false => rfl
          | true =>
            show Value.ref (ad' z.toNat) = .ref (ad z.toNat)
            have hlt : z.toNat < 1000 := Nat.le_of_ble_eq_true hb
            rcases hv with q | q | q | q | q | q | q
            · rw [show t = 0 from q.1] at h0; cases h0
            · rw [show t = 1 from q.1] at h1; cases h1
            · exact absurd q.2.1 (by dsimp only; omega)
            · rw [show t = 17 from q] at h2; cases h2
            · exact absurd q.2.1 (by dsimp only; omega)
            · exact absurd q.2.1 (by dsimp only; omega)
            · rcases q.2 with q | q
              · dsimp only at q; omega
              · dsimp only at q; rw [h _ (by omega)]
end CV
/-- locals as the kit lists them -/
def am_lv (ka : Nat → Nat) (vF : Value) (ad : Nat → Nat) : Nat → List am_V → List (Nat × Value)
  | _, [] => []
  | i, v :: r => bif Nat.beq v.1 9 then am_lv ka vF ad (i + 1) r else (i, am_cv ka vF ad v) :: am_lv ka vF ad (i + 1) r
def am_sl (i j : Nat) : Nat := bif Nat.blt (am_tag i) 100 then (bif Nat.beq (am_tag i) 12 then 1 else bif Nat.beq (am_tag i) 15 then 106 else 0) else am_at 0 (am_ft (am_tag i - 100)) j
def am_en (ka : Nat → Nat) (vF : Value) (ad cA : Nat → Nat) (σ : am_M) (i : Nat) : va_E :=
  bif Nat.blt (am_tag i) 100 then (bif Nat.beq (am_tag i) 12 then .inl (cA i, am_len i, .inr (.inl fun j => Int64.ofInt (σ i j))) else bif Nat.beq (am_tag i) 15 then .inl (cA i, am_len i, .inr (.inr (.inr (.inr fun j => if σ i j < 0 ∨ am_len i ≤ j then none else some (ad (σ i j).toNat))))) else .inl (cA i, am_len i, .inl fun j => Int32.ofInt (σ i j)))
  else .inr (am_tag i - 100, (List.range (am_len i)).map fun j => am_cv ka vF ad (am_sl i j, σ i j))
def am_ws (ka : Nat → Nat) (vF : Value) (ad cA : Nat → Nat) (σ : am_M) (n : Nat) : va_W := (List.range n).map fun i => (ad i, am_en ka vF ad cA σ i)
def am_okM (n : Nat) (σ : am_M) : Prop := ∀ i j, i < n → j < am_len i → am_ok n (am_sl i j, σ i j)
def am_isfn (i j : Nat) : Bool := bif Nat.beq (am_tag i) 15 then Nat.blt j 8 else Nat.ble 100 (am_tag i) && am_at false (am_isf (am_tag i - 100)) j
def am_okF (md : Bool) (n : Nat) (σ : am_M) : Prop := md = true → ∀ i j, i < n → am_isfn i j = true → σ i j = am_fin i j
def am_aty (t : Nat) : FieldType := bif Nat.beq t 11 then .int else bif Nat.beq t 12 then .long else bif Nat.beq t 13 then .byte else bif Nat.beq t 14 then .boolean else .object "PlanMemo$Shelf"
def am_Wd (D : va_G) (B0 : Nat) (ka : Nat → Nat) (vF : Value) (md : Bool) (n : Nat) (σ : am_M) (ad cA : Nat → Nat) (tys : List (ClassId × FieldType)) (s : State) (H : Heap) : Prop :=
  va_P D am_cl (am_ws ka vF ad cA σ n) H ∧ va_D (fun q => B0 ≤ q) (am_ws ka vF ad cA σ n) ∧ va_K D am_cl tys s ∧ (∀ i, i < n → am_tag i < 100 → ∃ t0 : Nat, tys[t0]? = some (cA i, am_aty (am_tag i))) ∧ am_okM n σ ∧ am_okF md n σ ∧ n ≤ 144
def am_slen : List Nat := [5, 5, 6, 5, 5, 1, 1, 1]
def am_sbyt : List (List Int32) := [[115, 99, 97, 110, 32], [107, 101, 101, 112, 32], [116, 97, 108, 108, 121, 32], [106, 111, 105, 110, 32], [104, 97, 108, 102, 32], [40], [44], [41]]
def am_sref : List (Nat × Nat × String × Nat) := [(10, 297, "scan ", 0), (10, 299, "keep ", 1), (10, 301, "tally ", 2), (10, 303, "join ", 3), (10, 305, "half ", 4), (10, 451, "(", 5), (10, 453, ",", 6), (10, 455, ")", 7), (9, 384, "scan ", 0), (9, 386, "keep ", 1), (9, 388, "tally ", 2), (9, 390, "join ", 3), (9, 392, "half ", 4)]
/-- statics, constant arrays, Strings, links among nest mates -/
def am_St (B0 : Nat) (ka : Nat → Nat) (vF : Value) (U : State) (H : Heap) : Prop :=
  (∀ j, j < 7 → va_Z (am_sfn j).1 (am_sfn j).2.1 (am_sfn j).2.2 (.ref (ka (1000 + j))) (fun q => B0 ≤ q) U H ∧ va_T .int (ka (1000 + j)) (am_len (1000 + j)) (fun k => .int (Int32.ofInt (am_kc (1000 + j) k))) (fun q => B0 ≤ q) U H) ∧
  va_Z (am_sfn 7).1 (am_sfn 7).2.1 (am_sfn 7).2.2 (.int 1) (fun q => B0 ≤ q) U H ∧ va_Z (am_sfn 8).1 (am_sfn 8).2.1 (am_sfn 8).2.2 vF (fun q => B0 ≤ q) U H ∧ (vF = .null ∨ ∃ a, vF = .ref a) ∧
  vk_S 8 am_slen am_sbyt (fun i => ka (2000 + i)) (fun i => ka (1100 + i)) (fun q => B0 ≤ q) U H ∧
  (∀ e ∈ am_sref, vk_R (am_cn e.1) e.2.1 e.2.2.1 (ka (2000 + e.2.2.2)) U) ∧ (∀ w ∈ am_nest, va_Nw w U) ∧ va_AO "PlanMemo$Shelf" U
def am_sz : Nat → Nat
  | 0 => 0
  | n + 1 => am_sz n + am_len n
section LV
variable {ka : Nat → Nat} {vF : Value} {ad : Nat → Nat}
theorem am_lv_mem : ∀ (L : List am_V) (i : Nat) (q : Nat × Value), q ∈ am_lv ka vF ad i L ↔ ∃ k v, L[k]? = some v ∧ v.1 ≠ 9 ∧ q = (i + k, am_cv ka vF ad v) := by
  intro L
  induction L with
  | nil =>
    intro i q
    constructor
    · intro h; cases h
    · rintro ⟨k, v, h, -⟩; simp at h
  | cons v L ih =>
    intro i q
    have step : (∃ k w, (v :: L)[k]? = some w ∧ w.1 ≠ 9 ∧ q = (i + k, am_cv ka vF ad w)) ↔ (v.1 ≠ 9 ∧ q = (i, am_cv ka vF ad v)) ∨ ∃ k w, L[k]? = some w ∧ w.1 ≠ 9 ∧ q = (i + 1 + k, am_cv ka vF ad w) := by
      constructor
      · rintro ⟨k, w, h, h9, e⟩
        cases k with
        | zero =>
          cases (Option.some.inj h : v = w)
          exact Or.inl ⟨h9, e⟩
        | succ k => exact Or.inr ⟨k, w, h, h9, by rw [e]; congr 1; omega⟩
      · rintro (⟨h9, e⟩ | ⟨k, w, h, h9, e⟩)
        · exact ⟨0, v, rfl, h9, e⟩
        · exact ⟨k + 1, w, h, h9, by rw [e]; congr 1; omega⟩
    rw [step, ← ih (i + 1) q]
    show q ∈ (bif Nat.beq v.1 9 then am_lv ka vF ad (i + 1) L else (i, am_cv ka vF ad v) :: am_lv ka vF ad (i + 1) L) ↔ _
    cases hb : Nat.beq v.1 9 with
    | true =>
      have : v.1 = 9 := Nat.eq_of_beq_eq_true hb
      show q ∈ am_lv ka vF ad (i + 1) L ↔ _
      constructor
      · exact Or.inr
      · rintro (h | h)
        · exact absurd this h.1
        · exact h
    | false =>
      have : v.1 ≠ 9 := fun e => by rw [e] at hb; cases hb
      show q ∈ (i, am_cv ka vF ad v) :: am_lv ka vF ad (i + 1) L ↔ _
      rw [List.mem_cons]
      constructor
      · rintro (h | h)
        · exact Or.inl ⟨this, h⟩
        · exact Or.inr h
      · rintro (h | h)
        · exact Or.inl h.2
        · exact Or.inr h
theorem am_has_sub {ls : Array Slot} {N : Nat} {l l' : List (Nat × Value)} (h : lv_has ls N l) (hs : ∀ q ∈ l', q ∈ l) : lv_has ls N l' := ⟨h.1, h.2.1, fun q hq => h.2.2 q (hs q hq)⟩
theorem am_ld_some {k : Nat → Int → Option am_R} {r : am_R} : ∀ {L : List am_V} {j : Nat}, am_ld L j k = some r → ∃ t z, L[j]? = some (t, z) ∧ k t z = some r := by
  intro L
  induction L with
  | nil => intro j h; cases h
  | cons v L ih =>
    obtain ⟨t, z⟩ := v
    intro j h
    cases j with
    | zero => exact ⟨t, z, rfl, h⟩
    | succ j => exact ih (j := j) h
theorem am_ld_at {L : List am_V} {j : Nat} {t : Nat} {z : Int} (h : L[j]? = some (t, z)) (h9 : t ≠ 9) {ls : Array Slot} {N : Nat} (hl : lv_has ls N (am_lv ka vF ad 0 L)) : ls[j]? = some (.val (am_cv ka vF ad (t, z))) := by
  have := hl.2.2 (j, am_cv ka vF ad (t, z)) ((am_lv_mem L 0 _).mpr ⟨j, (t, z), h, h9, by rw [Nat.zero_add]⟩)
  exact this
theorem am_s1_some {v : am_V} {r : am_R} : ∀ {L : List am_V} {j : Nat} {k : List am_V → Option am_R}, am_s1 L j v k = some r →
    ∃ L', k L' = some r ∧ L'.length = L.length ∧ j < L.length ∧ L'[j]? = some v ∧ ∀ i w, i ≠ j → L'[i]? = some w → w.1 ≠ 9 → L[i]? = some w ∧ ¬ (i + 1 = j ∧ w.1 = 1) := by
  intro L
  induction L with
  | nil => intro j k h; cases h
  | cons u L ih =>
    obtain ⟨t, z⟩ := u
    intro j k h
    cases j with
    | zero =>
      refine ⟨v :: L, h, rfl, by simp, rfl, fun i w hi hw h9 => ?_⟩
      cases i with
      | zero => exact absurd rfl hi
      | succ i => exact ⟨hw, by omega⟩
    | succ j =>
      obtain ⟨L', h1, h2, h3, h4, h5⟩ := ih (j := j) (k := fun r => bif Nat.beq t 1 && Nat.beq j 0 then k ((9, 0) :: r) else k ((t, z) :: r)) h
      have hlen : j + 1 < ((t, z) :: L).length := by simp; omega
      cases hb : (Nat.beq t 1 && Nat.beq j 0) with
      | true =>
        rw [hb] at h1
        refine ⟨(9, 0) :: L', h1, by simp [h2], hlen, h4, fun i w hi hw h9 => ?_⟩
        cases i with
        | zero => cases (Option.some.inj hw : ((9, 0) : am_V) = w); exact absurd rfl h9
        | succ i =>
          obtain ⟨a, b⟩ := h5 i w (by omega) hw h9
          exact ⟨a, by omega⟩
      | false =>
        rw [hb] at h1
        refine ⟨(t, z) :: L', h1, by simp [h2], hlen, h4, fun i w hi hw h9 => ?_⟩
        cases i with
        | zero =>
          cases (Option.some.inj hw : (t, z) = w)
          refine ⟨rfl, fun q => ?_⟩
          obtain ⟨q1, q2⟩ := q
          have q1' : j = 0 := by omega
          have q2' : t = 1 := q2
          rw [q1', q2'] at hb
          cases hb
        | succ i =>
          obtain ⟨a, b⟩ := h5 i w (by omega) hw h9
          exact ⟨a, by omega⟩
theorem am_s2_some {v : am_V} {r : am_R} : ∀ {L : List am_V} {j : Nat} {k : List am_V → Option am_R}, am_s2 L j v k = some r →
    ∃ L', k L' = some r ∧ L'.length = L.length ∧ j + 1 < L.length ∧ L'[j]? = some v ∧ ∀ i w, i ≠ j → L'[i]? = some w → w.1 ≠ 9 → L[i]? = some w ∧ i ≠ j + 1 ∧ ¬ (i + 1 = j ∧ w.1 = 1) := by
  intro L
  induction L with
  | nil => intro j k h; cases j <;> cases h
  | cons u L ih =>
    obtain ⟨t, z⟩ := u
    intro j k h
    cases j with
    | zero =>
      cases L with
      | nil => cases h
      | cons u2 L =>
        refine ⟨v :: (9, 0) :: L, h, rfl, by simp, rfl, fun i w hi hw h9 => ?_⟩
        cases i with
        | zero => exact absurd rfl hi
        | succ i =>
          cases i with
          | zero => cases (Option.some.inj hw : ((9, 0) : am_V) = w); exact absurd rfl h9
          | succ i => exact ⟨hw, by omega, by omega⟩
    | succ j =>
      obtain ⟨L', h1, h2, h3, h4, h5⟩ := ih (j := j) (k := fun r => bif Nat.beq t 1 && Nat.beq j 0 then k ((9, 0) :: r) else k ((t, z) :: r)) h
      have hlen : j + 1 + 1 < ((t, z) :: L).length := by simp; omega
      cases hb : (Nat.beq t 1 && Nat.beq j 0) with
      | true =>
        rw [hb] at h1
        refine ⟨(9, 0) :: L', h1, by simp [h2], hlen, h4, fun i w hi hw h9 => ?_⟩
        cases i with
        | zero => cases (Option.some.inj hw : ((9, 0) : am_V) = w); exact absurd rfl h9
        | succ i =>
          obtain ⟨a, b, c⟩ := h5 i w (by omega) hw h9
          exact ⟨a, by omega, by omega⟩
      | false =>
        rw [hb] at h1
        refine ⟨(t, z) :: L', h1, by simp [h2], hlen, h4, fun i w hi hw h9 => ?_⟩
        cases i with
        | zero =>
          cases (Option.some.inj hw : (t, z) = w)
          refine ⟨rfl, by omega, fun q => ?_⟩
          obtain ⟨q1, q2⟩ := q
          have q1' : j = 0 := by omega
          have q2' : t = 1 := q2
          rw [q1', q2'] at hb
          cases hb
        | succ i =>
          obtain ⟨a, b, c⟩ := h5 i w (by omega) hw h9
          exact ⟨a, by omega, by omega⟩
theorem am_mask_some {r : am_R} : ∀ {b : List Bool} {L : List am_V} {k : List am_V → Option am_R}, am_mask b L k = some r →
    ∃ L' : List am_V, k L' = some r ∧ L'.length = L.length ∧ ∀ (i : Nat) (w : am_V), L'[i]? = some w → w.1 ≠ 9 → L[i]? = some w := by
  intro b
  induction b with
  | nil => intro L k h; exact ⟨L, by cases L <;> exact h, rfl, fun i w hw _ => hw⟩
  | cons x b ih =>
    intro L k h
    cases L with
    | nil => exact ⟨[], by cases x <;> exact h, rfl, fun i w hw _ => hw⟩
    | cons u L =>
      cases x with
      | false =>
        obtain ⟨L', h1, h2, h3⟩ := ih (k := fun r => k ((9, 0) :: r)) h
        refine ⟨(9, 0) :: L', h1, by simp [h2], fun i w hw h9 => ?_⟩
        cases i with
        | zero => cases (Option.some.inj hw : ((9, 0) : am_V) = w); exact absurd rfl h9
        | succ i => exact h3 i w hw h9
      | true =>
        obtain ⟨L', h1, h2, h3⟩ := ih (k := fun r => k (u :: r)) h
        refine ⟨u :: L', h1, by simp [h2], fun i w hw h9 => ?_⟩
        cases i with
        | zero => exact hw
        | succ i => exact h3 i w hw h9
end LV
def am_Cx (p : Program) (s : State) (m : MethodId) (args : Array Value) (c : Code) (y B0 : Nat) (ka : Nat → Nat) (vF : Value) : Prop :=
  p.tables.exec = Jvm.exec ∧ c.code = am_by y ∧ c.maxLocals = am_ml y ∧ s.vm.findClass (am_cn (am_own y)) = some m.cls ∧ (∀ w ∈ am_wa, w.before args s = true) ∧ am_St B0 ka vF s s.heap ∧ B0 ≤ s.heap.size ∧ y < 278
def am_Pt (s : State) (D : va_G) (B0 : Nat) (ka : Nat → Nat) (vF : Value) (md : Bool) (y n0 c0 s0 : Nat) (ad0 : Nat → Nat) (ls : Array Slot) (L st : List am_V) (σ : am_M) (n : Nat) (H : Heap) (locs : List Loc) (cells slots : Nat) (ad cA : Nat → Nat) (tys : List (ClassId × FieldType)) : Prop :=
  va_S (fun q => B0 ≤ q) s.heap H locs ∧ am_Wd D B0 ka vF md n σ ad cA tys s H ∧ lv_has ls (am_ml y) (am_lv ka vF ad 0 L) ∧ L.length = am_ml y ∧ (∀ (i : Nat) (v : am_V), L[i]? = some v → v.1 ≠ 9 → am_ok n v) ∧ (∀ v ∈ st, am_ok n v) ∧ n0 ≤ n ∧ (∀ i, i < n0 → ad i = ad0 i) ∧ cells = c0 + (n - n0) ∧ slots = s0 + (am_sz n - am_sz n0)
def am_Go (p : Program) (l : Launch) (e : Env) (R : Room) (s : State) (m : MethodId) (args : Array Value) (below : List Frame) (meth : Method) (c : Code) (Q : State → Prop) (D : va_G) (B0 : Nat) (ka : Nat → Nat) (vF : Value) (md : Bool) (y n0 c0 s0 : Nat) (ad0 : Nat → Nat) (nf : Nat) (S : am_S) : Prop :=
  S.2.2.2.2 ≤ nf ∧ ∀ (H : Heap) (locs : List Loc) (cells slots : Nat) (ls : Array Slot) (ad cA : Nat → Nat) (tys : List (ClassId × FieldType)), am_Pt s D B0 ka vF md y n0 c0 s0 ad0 ls S.2.1 S.2.2.1 S.2.2.2.1 S.2.2.2.2 H locs cells slots ad cA tys →
    W p l e R s m args below meth c H locs cells slots Q (F0 m S.1 ls (S.2.2.1.map (am_cv ka vF ad)))
theorem am_if_some {p : Prop} {dp : Decidable p} {x : Option am_R} {r : am_R} (h : @am_if p dp x = some r) : p ∧ x = some r := by
  unfold am_if at h
  split at h
  · exact ⟨by assumption, h⟩
  · cases h
theorem am_bif_some {b : Bool} {x : Option am_R} {r : am_R} (h : (bif b then x else none) = some r) : b = true ∧ x = some r := by
  cases b
  · cases h
  · exact ⟨rfl, h⟩
theorem am_bif_none {b : Bool} {x : Option am_R} {r : am_R} (h : (bif b then none else x) = some r) : b = false ∧ x = some r := by
  cases b
  · exact ⟨rfl, h⟩
  · cases h
theorem am_v1_some {st : List am_V} {f : Nat → Int → List am_V → Option am_R} {r : am_R} (h : am_v1 st f = some r) : ∃ t z st', st = (t, z) :: st' ∧ f t z st' = some r := by
  cases st with
  | nil => cases h
  | cons v st => obtain ⟨t, z⟩ := v; exact ⟨t, z, st, rfl, h⟩
theorem am_i1_some {st : List am_V} {f : Int → List am_V → Option am_R} {r : am_R} (h : am_i1 st f = some r) : ∃ z st', st = (0, z) :: st' ∧ f z st' = some r := by
  obtain ⟨t, z, st', rfl, h⟩ := am_v1_some h
  obtain ⟨hb, h⟩ := am_bif_some h
  obtain rfl : t = 0 := Nat.eq_of_beq_eq_true hb
  exact ⟨z, st', rfl, h⟩
theorem am_l1_some {st : List am_V} {f : Int → List am_V → Option am_R} {r : am_R} (h : am_l1 st f = some r) : ∃ z st', st = (1, z) :: st' ∧ f z st' = some r := by
  obtain ⟨t, z, st', rfl, h⟩ := am_v1_some h
  obtain ⟨hb, h⟩ := am_bif_some h
  obtain rfl : t = 1 := Nat.eq_of_beq_eq_true hb
  exact ⟨z, st', rfl, h⟩
theorem am_ii_some {st : List am_V} {f : Int → Int → List am_V → Option am_R} {r : am_R} (h : am_ii st f = some r) : ∃ a b st', st = (0, b) :: (0, a) :: st' ∧ f a b st' = some r := by
  obtain ⟨b, st1, e1, h1⟩ := am_i1_some h
  obtain ⟨a, st2, e2, h2⟩ := am_i1_some h1
  exact ⟨a, b, st2, by rw [e1, e2], h2⟩
theorem am_ll_some {st : List am_V} {f : Int → Int → List am_V → Option am_R} {r : am_R} (h : am_ll st f = some r) : ∃ a b st', st = (1, b) :: (1, a) :: st' ∧ f a b st' = some r := by
  obtain ⟨b, st1, e1, h1⟩ := am_l1_some h
  obtain ⟨a, st2, e2, h2⟩ := am_l1_some h1
  exact ⟨a, b, st2, by rw [e1, e2], h2⟩
theorem am_li_some {st : List am_V} {f : Int → Int → List am_V → Option am_R} {r : am_R} (h : am_li st f = some r) : ∃ a b st', st = (0, b) :: (1, a) :: st' ∧ f a b st' = some r := by
  obtain ⟨b, st1, e1, h1⟩ := am_i1_some h
  obtain ⟨a, st2, e2, h2⟩ := am_l1_some h1
  exact ⟨a, b, st2, by rw [e1, e2], h2⟩
