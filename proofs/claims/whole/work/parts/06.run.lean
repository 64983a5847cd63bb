/-! Each step asks once, of the rest or of a callee and then of the rest: so the machine with fuel has a limit, which is its own step. -/
def am_Ct (F : am_C → (am_S → Option am_R) → Option am_R) : Prop := ∀ c k r, F c k = some r →
  (∃ S, k S = some r ∧ ∀ (c' : am_C) (k' : am_S → Option am_R), k' S = some r → F c' k' = some r) ∨
  (∃ y as σ n q S, c y as σ n = some q ∧ k S = some r ∧ ∀ (c' : am_C) (k' : am_S → Option am_R), c' y as σ n = some q → k' S = some r → F c' k' = some r) ∨
  (∀ (c' : am_C) (k' : am_S → Option am_R), F c' k' = some r)
theorem ct_c (x : Option am_R) : am_Ct (fun _ _ => x) := fun _ _ _ h => Or.inr (Or.inr fun _ _ => h)
theorem ct_k (S : am_S) : am_Ct (fun _ k => k S) := fun _ _ _ h => Or.inl ⟨S, h, fun _ _ h => h⟩
theorem ct_b (b : Bool) {F G : am_C → (am_S → Option am_R) → Option am_R} (hF : am_Ct F) (hG : am_Ct G) : am_Ct (fun c k => bif b then F c k else G c k) := by
  cases b
  · exact hG
  · exact hF
theorem ct_p (p : Prop) {dp : Decidable p} {F G : am_C → (am_S → Option am_R) → Option am_R} (hF : am_Ct F) (hG : am_Ct G) : am_Ct (fun c k => @ite _ p dp (F c k) (G c k)) := by
  by_cases h : p
  · simp only [if_pos h]; exact hF
  · simp only [if_neg h]; exact hG
theorem ct_if (p : Prop) {dp : Decidable p} {F : am_C → (am_S → Option am_R) → Option am_R} (hF : am_Ct F) : am_Ct (fun c k => @am_if p dp (F c k)) := ct_p p hF (ct_c none)
theorem ct_v1 (st : List am_V) {f : am_C → (am_S → Option am_R) → Nat → Int → List am_V → Option am_R} (h : ∀ t z st, am_Ct (fun c k => f c k t z st)) : am_Ct (fun c k => am_v1 st (f c k)) := by
  cases st with
  | nil => exact ct_c none
  | cons v st => exact h v.1 v.2 st
theorem ct_i1 (st : List am_V) {f : am_C → (am_S → Option am_R) → Int → List am_V → Option am_R} (h : ∀ z st, am_Ct (fun c k => f c k z st)) : am_Ct (fun c k => am_i1 st (f c k)) := by
  cases st with
  | nil => exact ct_c none
  | cons v st => exact ct_b _ (h v.2 st) (ct_c none)
theorem ct_l1 (st : List am_V) {f : am_C → (am_S → Option am_R) → Int → List am_V → Option am_R} (h : ∀ z st, am_Ct (fun c k => f c k z st)) : am_Ct (fun c k => am_l1 st (f c k)) := by
  cases st with
  | nil => exact ct_c none
  | cons v st => exact ct_b _ (h v.2 st) (ct_c none)
theorem ct_ii (st : List am_V) {f : am_C → (am_S → Option am_R) → Int → Int → List am_V → Option am_R} (h : ∀ a b st, am_Ct (fun c k => f c k a b st)) : am_Ct (fun c k => am_ii st (f c k)) :=
  ct_i1 st fun b st => ct_i1 st fun a st => h a b st
theorem ct_ll (st : List am_V) {f : am_C → (am_S → Option am_R) → Int → Int → List am_V → Option am_R} (h : ∀ a b st, am_Ct (fun c k => f c k a b st)) : am_Ct (fun c k => am_ll st (f c k)) :=
  ct_l1 st fun b st => ct_l1 st fun a st => h a b st
theorem ct_li (st : List am_V) {f : am_C → (am_S → Option am_R) → Int → Int → List am_V → Option am_R} (h : ∀ a b st, am_Ct (fun c k => f c k a b st)) : am_Ct (fun c k => am_li st (f c k)) :=
  ct_i1 st fun b st => ct_l1 st fun a st => h a b st
theorem ct_ix (r j : Int) {F : am_C → (am_S → Option am_R) → Option am_R} (hF : am_Ct F) : am_Ct (fun c k => am_ix r j (F c k)) := ct_if _ hF
theorem ct_cx (r j : Int) {F : am_C → (am_S → Option am_R) → Option am_R} (hF : am_Ct F) : am_Ct (fun c k => am_cx r j (F c k)) := ct_if _ hF
theorem ct_jmp (pc : Nat) (o : Int) {f : am_C → (am_S → Option am_R) → Nat → Option am_R} (h : ∀ t, am_Ct (fun c k => f c k t)) : am_Ct (fun c k => am_jmp pc o (f c k)) := ct_b _ (h _) (ct_c none)
theorem ct_cond (q : ClassFile.Cond) (a b : Int) {F G : am_C → (am_S → Option am_R) → Option am_R} (hF : am_Ct F) (hG : am_Ct G) : am_Ct (fun c k => am_cond q a b (F c k) (G c k)) := by
  cases q
  · exact ct_p _ hF hG
  · exact ct_p _ hG hF
  · exact ct_p _ hF hG
  · exact ct_p _ hG hF
  · exact ct_p _ hF hG
  · exact ct_p _ hG hF
theorem ct_tsw (a : Int) (pc : Nat) {D : am_C → (am_S → Option am_R) → Option am_R} (hD : am_Ct D) {f : am_C → (am_S → Option am_R) → Nat → Option am_R} (h : ∀ t, am_Ct (fun c k => f c k t)) :
    ∀ (os : List Int) (lo : Int), am_Ct (fun c k => am_sw a (D c k) (am_tsw pc (f c k) lo os)) := by
  intro os
  induction os with
  | nil => intro lo; exact hD
  | cons o os ih =>
    intro lo
    show am_Ct (fun c k => if a = lo then am_jmp pc o (f c k) else am_sw a (D c k) (am_tsw pc (f c k) (lo + 1) os))
    exact ct_p _ (ct_jmp pc o h) (ih (lo + 1))
theorem ct_lsw (a : Int) (pc : Nat) {D : am_C → (am_S → Option am_R) → Option am_R} (hD : am_Ct D) {f : am_C → (am_S → Option am_R) → Nat → Option am_R} (h : ∀ t, am_Ct (fun c k => f c k t)) :
    ∀ (os : List (Int × Int)), am_Ct (fun c k => am_sw a (D c k) (am_lsw pc (f c k) os)) := by
  intro os
  induction os with
  | nil => exact hD
  | cons o os ih =>
    show am_Ct (fun c k => if a = o.1 then am_jmp pc o.2 (f c k) else am_sw a (D c k) (am_lsw pc (f c k) os))
    exact ct_p _ (ct_jmp pc o.2 h) ih
theorem ct_bind (y : Nat) (as : List am_V) (σ : am_M) (n : Nat) {g : am_C → (am_S → Option am_R) → am_R → Option am_R} (S : am_R → am_S) (hg : ∀ c k q, g c k q = k (S q)) : am_Ct (fun c k => (c y as σ n).bind (g c k)) := by
  intro c k r h
  have h1 : (c y as σ n).bind (g c k) = some r := h
  cases hq : c y as σ n with
  | none => rw [hq] at h1; cases h1
  | some q =>
    rw [hq] at h1
    refine Or.inr (Or.inl ⟨y, as, σ, n, q, S q, hq, ?_, fun c' k' e1 e2 => ?_⟩)
    · rw [← hg c k q]; exact h1
    · show (c' y as σ n).bind (g c' k') = some r
      rw [e1]
      show g c' k' q = some r
      rw [hg]; exact e2
theorem ct_do (y a rt : Nat) (ok : Nat → Bool) (st : List am_V) {f : am_C → (am_S → Option am_R) → List am_V → am_M → Nat → Option am_R} (T : List am_V → am_M → Nat → am_S) (h : ∀ c k st σ n, f c k st σ n = k (T st σ n)) (σ : am_M) (n : Nat) : am_Ct (fun c k => am_do c y a rt ok st (f c k) σ n) := by
  unfold am_do
  cases hp : am_pop a [] st with
  | none => exact ct_c none
  | some q =>
    obtain ⟨as, st⟩ := q
    cases as with
    | nil => exact ct_c none
    | cons v as => exact ct_b _ (ct_if _ (ct_bind y (v :: as) σ n (fun q => T (am_push rt q.1 st) q.2.1 q.2.2) fun c k q => h c k _ _ _)) (ct_c none)
theorem ct_doS (y a rt : Nat) (st : List am_V) {f : am_C → (am_S → Option am_R) → List am_V → am_M → Nat → Option am_R} (T : List am_V → am_M → Nat → am_S) (h : ∀ c k st σ n, f c k st σ n = k (T st σ n)) (σ : am_M) (n : Nat) : am_Ct (fun c k => am_doS c y a rt st (f c k) σ n) := by
  unfold am_doS
  cases hp : am_pop a [] st with
  | none => exact ct_c none
  | some q =>
    obtain ⟨as, st⟩ := q
    exact ct_b _ (ct_bind y as σ n (fun q => T (am_push rt q.1 st) q.2.1 q.2.2) fun c k q => h c k _ _ _) (ct_c none)
theorem ct_acp (d : Nat) (st : List am_V) {f : am_C → (am_S → Option am_R) → List am_V → am_M → Option am_R} (h : ∀ st σ, am_Ct (fun c k => f c k st σ)) (σ : am_M) : am_Ct (fun c k => am_acp d st (f c k) σ) :=
  ct_b _ (ct_i1 st fun z st => ct_i1 st fun dp st => ct_v1 st fun u b st => ct_i1 st fun sp st => ct_v1 st fun t a st => ct_b _ (ct_if _ (h _ _)) (ct_c none)) (ct_c none)
theorem ct_getf (md : Bool) (x : Nat × Nat × Nat × Nat) (st : List am_V) {f : am_C → (am_S → Option am_R) → List am_V → Option am_R} (h : ∀ st, am_Ct (fun c k => f c k st)) (σ : am_M) : am_Ct (fun c k => am_getf md x st (f c k) σ) :=
  ct_v1 st fun t r st => ct_b _ (ct_b _ (ct_b _ (h _) (h _)) (ct_c none)) (ct_b _ (ct_if _ (h _)) (ct_c none))
theorem ct_putf (md : Bool) (x : Nat × Nat × Nat × Nat) (st : List am_V) {f : am_C → (am_S → Option am_R) → List am_V → am_M → Option am_R} (h : ∀ st σ, am_Ct (fun c k => f c k st σ)) (σ : am_M) : am_Ct (fun c k => am_putf md x st (f c k) σ) :=
  ct_v1 st fun u v st => ct_v1 st fun t r st => ct_b _ (ct_if _ (ct_b _ (ct_if _ (h _ _)) (h _ _))) (ct_c none)
set_option maxHeartbeats 4000000 in
theorem ct_ins (md : Bool) (d y : Nat) (i : Instr) (len : Nat) (x : Nat × Nat × Nat × Nat) (pc : Nat) (ls st : List am_V) (σ : am_M) (n : Nat) : am_Ct (fun c k => am_ins md d y c k i len x pc ls st σ n) := by
  cases i <;> dsimp only [am_ins] <;> first
    | exact ct_c none
    | exact ct_k _
    | exact ct_c _
    | exact ct_b _ (ct_k _) (ct_c none)
    | exact ct_i1 st fun z st => ct_k _
    | exact ct_l1 st fun z st => ct_k _
    | exact ct_ii st fun a b st => ct_k _
    | exact ct_ll st fun a b st => ct_k _
    | exact ct_li st fun a b st => ct_k _
    | exact ct_ii st fun a b st => ct_if _ (ct_k _)
    | exact ct_ll st fun a b st => ct_if _ (ct_k _)
    | exact ct_i1 st fun z st => ct_b _ (ct_k _) (ct_c none)
    | exact ct_l1 st fun z st => ct_b _ (ct_k _) (ct_c none)
    | exact ct_v1 st fun t z st => ct_b _ (ct_k _) (ct_c none)
    | exact ct_v1 st fun t z st => ct_b _ (ct_c none) (ct_k _)
    | exact ct_v1 st fun t z st => ct_v1 st fun u w st => ct_b _ (ct_c none) (ct_k _)
    | exact ct_jmp _ _ fun t => ct_k _
    | exact ct_i1 st fun a st => ct_cond _ _ _ (ct_jmp _ _ fun t => ct_k _) (ct_k _)
    | exact ct_ii st fun a b st => ct_cond _ _ _ (ct_jmp _ _ fun t => ct_k _) (ct_k _)
    | exact ct_i1 st fun a st => ct_tsw _ _ (ct_jmp _ _ fun t => ct_k _) (fun t => ct_k _) _ _
    | exact ct_i1 st fun a st => ct_lsw _ _ (ct_jmp _ _ fun t => ct_k _) (fun t => ct_k _) _
    | exact ct_getf _ _ st (fun st => ct_k _) σ
    | exact ct_putf _ _ st (fun st σ => ct_k _) σ
    | exact ct_i1 st fun j st => ct_v1 st fun t r st => ct_b _ (ct_ix _ _ (ct_k _)) (ct_b _ (ct_cx _ _ (ct_k _)) (ct_c none))
    | exact ct_i1 st fun j st => ct_v1 st fun t r st => ct_b _ (ct_ix _ _ (ct_k _)) (ct_c none)
    | exact ct_i1 st fun v st => ct_i1 st fun j st => ct_v1 st fun t r st => ct_b _ (ct_ix _ _ (ct_k _)) (ct_c none)
    | exact ct_l1 st fun v st => ct_i1 st fun j st => ct_v1 st fun t r st => ct_b _ (ct_ix _ _ (ct_k _)) (ct_c none)
    | exact ct_i1 st fun v st => ct_i1 st fun j st => ct_v1 st fun t r st => ct_b _ (ct_ix _ _ (ct_k _)) (ct_b _ (ct_ix _ _ (ct_k _)) (ct_c none))
    | exact ct_v1 st fun u v st => ct_i1 st fun j st => ct_v1 st fun t r st => ct_b _ (ct_if _ (ct_ix _ _ (ct_k _))) (ct_c none)
    | exact ct_v1 st fun t r st => ct_b _ (ct_if _ (ct_k _)) (ct_b _ (ct_k _) (ct_c none))
    | exact ct_i1 st fun j st => ct_b _ (ct_if _ (ct_k _)) (ct_c none)
    | exact ct_do _ _ _ _ st _ (fun _ _ _ _ _ => rfl) σ n
    | exact ct_b _ (ct_acp d st (fun st σ => ct_k _) σ) (ct_doS _ _ _ st _ (fun _ _ _ _ _ => rfl) σ n)
    | exact ct_b _ (ct_v1 st fun t r st => ct_b _ (ct_if _ (ct_k _)) (ct_c none)) (ct_do _ _ _ _ st _ (fun _ _ _ _ _ => rfl) σ n)
theorem ct_step (md : Bool) (d y : Nat) (S : am_S) : am_Ct (fun c k => am_step md d y c k S) := by
  unfold am_step
  cases am_code y S.1 with
  | none => exact ct_c none
  | some e => exact ct_ins _ _ _ _ _ _ _ _ _ _ _
/-- the callees with fuel f -/
def am_cf (md : Bool) (f d : Nat) : am_C := fun y' as σ n => match d with
  | 0 => none
  | d + 1 => am_ex md f d y' (am_entry y' as σ n)
theorem am_ex_s (md : Bool) (f d y : Nat) (S : am_S) : am_ex md (f + 1) d y S = am_step md d y (am_cf md f d) (am_ex md f d y) S := rfl
theorem am_ex_mono1 (md : Bool) : ∀ (f d y : Nat) (S : am_S) (r : am_R), am_ex md f d y S = some r → am_ex md (f + 1) d y S = some r := by
  intro f
  induction f with
  | zero => intro d y S r h; cases h
  | succ f ih =>
    intro d y S r h
    rw [am_ex_s] at h ⊢
    rcases ct_step md d y S _ _ r h with ⟨S', h1, h2⟩ | ⟨y', as, σ, n, q, S', h0, h1, h2⟩ | h2
    · exact h2 _ _ (ih d y S' r h1)
    · refine h2 _ _ ?_ (ih d y S' r h1)
      cases d with
      | zero => cases h0
      | succ d => exact ih d y' _ q h0
    · exact h2 _ _
theorem am_ex_mono {md : Bool} {f g d y : Nat} {S : am_S} {r : am_R} (h : am_ex md f d y S = some r) (hg : f ≤ g) : am_ex md g d y S = some r := by
  induction g with
  | zero => have : f = 0 := by omega
            subst this; exact h
  | succ g ih =>
    by_cases e : f = g + 1
    · subst e; exact h
    · exact am_ex_mono1 md g d y S r (ih (by omega))
noncomputable def am_run (md : Bool) (d y : Nat) (S : am_S) : Option am_R := @dite _ (∃ r f, am_ex md f d y S = some r) (Classical.propDecidable _) (fun h => some (Classical.choose h)) (fun _ => none)
theorem am_run_iff {md : Bool} {d y : Nat} {S : am_S} {r : am_R} : am_run md d y S = some r ↔ ∃ f, am_ex md f d y S = some r := by
  unfold am_run
  by_cases h : ∃ r f, am_ex md f d y S = some r
  · rw [dif_pos h]
    obtain ⟨f, hf⟩ := Classical.choose_spec h
    constructor
    · intro e
      exact ⟨f, by rw [hf]; exact e⟩
    · rintro ⟨g, hg⟩
      have a := am_ex_mono hf (Nat.le_max_left f g)
      have b := am_ex_mono hg (Nat.le_max_right f g)
      rw [a] at b
      exact b
  · rw [dif_neg h]
    constructor
    · intro e; cases e
    · intro e; exact absurd ⟨r, e⟩ h
noncomputable def am_cal (md : Bool) (d : Nat) : am_C := fun y' as σ n => match d with
  | 0 => none
  | d + 1 => am_run md d y' (am_entry y' as σ n)
theorem am_run_eq (md : Bool) (d y : Nat) (S : am_S) : am_run md d y S = am_step md d y (am_cal md d) (am_run md d y) S := by
  have key : ∀ r, am_run md d y S = some r ↔ am_step md d y (am_cal md d) (am_run md d y) S = some r := by
    intro r
    rw [am_run_iff]
    constructor
    · rintro ⟨f, hf⟩
      cases f with
      | zero => cases hf
      | succ f =>
        rw [am_ex_s] at hf
        rcases ct_step md d y S _ _ r hf with ⟨S', h1, h2⟩ | ⟨y', as, σ, n, q, S', h0, h1, h2⟩ | h2
        · exact h2 _ _ (am_run_iff.mpr ⟨f, h1⟩)
        · refine h2 _ _ ?_ (am_run_iff.mpr ⟨f, h1⟩)
          cases d with
          | zero => cases h0
          | succ d => exact am_run_iff.mpr ⟨f, h0⟩
        · exact h2 _ _
    · intro h
      rcases ct_step md d y S _ _ r h with ⟨S', h1, h2⟩ | ⟨y', as, σ, n, q, S', h0, h1, h2⟩ | h2
      · obtain ⟨f, hf⟩ := am_run_iff.mp h1
        exact ⟨f + 1, by rw [am_ex_s]; exact h2 _ _ hf⟩
      · cases d with
        | zero => cases h0
        | succ d =>
          obtain ⟨f, hf⟩ := am_run_iff.mp h1
          obtain ⟨g, hg⟩ := am_run_iff.mp (show am_run md d y' (am_entry y' as σ n) = some q from h0)
          exact ⟨max f g + 1, by rw [am_ex_s]; exact h2 _ _ (am_ex_mono hg (Nat.le_max_right f g)) (am_ex_mono hf (Nat.le_max_left f g))⟩
      · exact ⟨1, by rw [am_ex_s]; exact h2 _ _⟩
  cases h : am_run md d y S with
  | some r => exact ((key r).mp h).symm
  | none =>
    cases h2 : am_step md d y (am_cal md d) (am_run md d y) S with
    | none => rfl
    | some r => rw [(key r).mpr h2] at h; cases h
theorem am_mask_idem : ∀ (b : List Bool) (l : List am_V), am_mask b (am_mask b l) = am_mask b l := by
  intro b
  induction b with
  | nil => intro l; simp [am_mask]
  | cons x b ih =>
    intro l
    cases l with
    | nil => cases x <;> simp [am_mask]
    | cons v l => cases x <;> simp [am_mask, ih]
theorem am_run_mask {md : Bool} {d y pc : Nat} {ls st : List am_V} {σ : am_M} {n : Nat} {e : am_E} {b : List Bool} (h : am_code y pc = some e) (hb : e.2.2.2 = some b) : am_run md d y (pc, am_mask b ls, st, σ, n) = am_run md d y (pc, ls, st, σ, n) := by
  rw [am_run_eq, am_run_eq (S := (pc, ls, st, σ, n))]
  unfold am_step
  rw [h]
  show am_ins md d y _ _ e.1 e.2.1 e.2.2.1 pc (am_live e.2.2.2 (am_mask b ls)) st σ n = am_ins md d y _ _ e.1 e.2.1 e.2.2.1 pc (am_live e.2.2.2 ls) st σ n
  rw [hb]
  show am_ins md d y _ _ e.1 e.2.1 e.2.2.1 pc (am_mask b (am_mask b ls)) st σ n = _
  rw [am_mask_idem]
  rfl
/-- a stretch of at most f steps up to the next place that has a mask -/
noncomputable def am_rn (md : Bool) (d y : Nat) : Nat → am_S → Option am_R
  | 0, S => am_run md d y S
  | f + 1, S => am_step md d y (am_cal md d) (fun S' => match am_code y S'.1 with
    | none => none
    | some e => match e.2.2.2 with
      | some b => am_run md d y (S'.1, am_mask b S'.2.1, S'.2.2)
      | none => am_rn md d y f S') S
theorem am_rn_eq (md : Bool) (d y : Nat) : ∀ (f : Nat) (S : am_S), am_run md d y S = am_rn md d y f S := by
  intro f
  induction f with
  | zero => intro S; rfl
  | succ f ih =>
    intro S
    rw [am_run_eq]
    show am_step md d y (am_cal md d) (am_run md d y) S = am_step md d y (am_cal md d) _ S
    congr 1
    funext S'
    cases h : am_code y S'.1 with
    | none =>
      rw [am_run_eq]
      unfold am_step
      rw [h]
    | some e =>
      show am_run md d y S' = match e.2.2.2 with
        | some b => am_run md d y (S'.1, am_mask b S'.2.1, S'.2.2)
        | none => am_rn md d y f S'
      cases hb : e.2.2.2 with
      | none => exact ih S'
      | some b => exact (am_run_mask (ls := S'.2.1) (st := S'.2.2.1) (σ := S'.2.2.2.1) (n := S'.2.2.2.2) h hb).symm
