/-! Each step asks once, of the rest or of a callee and then of the rest: so the machine with fuel has a limit, which is its own step. -/
def am_Ct (F : am_C → (am_S → Option am_R) → Option am_R) : Prop := ∀ c k r, F c k = some r →
  (∃ S, k S = some r ∧ ∀ (c' : am_C) (k' : am_S → Option am_R), k' S = some r → F c' k' = some r) ∨
  (∃ y as σ n q S, c y as σ n = some q ∧ k S = some r ∧ ∀ (c' : am_C) (k' : am_S → Option am_R), c' y as σ n = some q → k' S = some r → F c' k' = some r) ∨
  (∀ (c' : am_C) (k' : am_S → Option am_R), F c' k' = some r)
theorem ct_c (x : Option am_R) : am_Ct (fun _ _ => x) := fun _ _ _ h => Or.inr (Or.inr fun _ _ => h)
theorem ct_k (S : am_S) : am_Ct (fun _ k => k S) := fun _ _ _ h => Or.inl ⟨S, h, fun _ _ h => h⟩
theorem ct_b (b : Bool) {F G : am_C → (am_S → Option am_R) → Option am_R} (hF : am_Ct F) (hG : am_Ct G) : am_Ct (fun c k => bif b then F c k else G c k) := by
  cases b
  · exact hG
  · exact hF
theorem ct_p (p : Prop) {dp : Decidable p} {F G : am_C → (am_S → Option am_R) → Option am_R} (hF : am_Ct F) (hG : am_Ct G) : am_Ct (fun c k => @ite _ p dp (F c k) (G c k)) := by
  by_cases h : p
  · simp only [if_pos h]; exact hF
  · simp only [if_neg h]; exact hG
theorem ct_if (p : Prop) {dp : Decidable p} {F : am_C → (am_S → Option am_R) → Option am_R} (hF : am_Ct F) : am_Ct (fun c k => @am_if p dp (F c k)) := ct_p p hF (ct_c none)
theorem ct_v1 (st : List am_V) {f : am_C → (am_S → Option am_R) → Nat → Int → List am_V → Option am_R} (h : ∀ t z st, am_Ct (fun c k => f c k t z st)) : am_Ct (fun c k => am_v1 st (f c k)) := by
  cases st with
  | nil => exact ct_c none
  | cons v st => obtain ⟨t, z⟩ := v; exact h t z st
theorem ct_i1 (st : List am_V) {f : am_C → (am_S → Option am_R) → Int → List am_V → Option am_R} (h : ∀ z st, am_Ct (fun c k => f c k z st)) : am_Ct (fun c k => am_i1 st (f c k)) := ct_v1 st fun t z st => ct_b _ (h z st) (ct_c none)
theorem ct_l1 (st : List am_V) {f : am_C → (am_S → Option am_R) → Int → List am_V → Option am_R} (h : ∀ z st, am_Ct (fun c k => f c k z st)) : am_Ct (fun c k => am_l1 st (f c k)) := ct_v1 st fun t z st => ct_b _ (h z st) (ct_c none)
theorem ct_ld (ls : List am_V) : ∀ (j : Nat) {f : am_C → (am_S → Option am_R) → Nat → Int → Option am_R}, (∀ t z, am_Ct (fun c k => f c k t z)) → am_Ct (fun c k => am_ld ls j (f c k)) := by
  induction ls with
  | nil => intro j f h; exact ct_c none
  | cons v ls ih =>
    obtain ⟨t, z⟩ := v
    intro j f h
    cases j with
    | zero => exact h t z
    | succ j => exact ih j h
theorem ct_s1 (ls : List am_V) : ∀ (j : Nat) (v : am_V) {f : am_C → (am_S → Option am_R) → List am_V → Option am_R}, (∀ ls, am_Ct (fun c k => f c k ls)) → am_Ct (fun c k => am_s1 ls j v (f c k)) := by
  induction ls with
  | nil => intro j v f h; exact ct_c none
  | cons w ls ih =>
    obtain ⟨t, z⟩ := w
    intro j v f h
    cases j with
    | zero => exact h _
    | succ j => exact ih j v (f := fun c k r => bif Nat.beq t 1 && Nat.beq j 0 then f c k ((9, 0) :: r) else f c k ((t, z) :: r)) fun r => ct_b _ (h _) (h _)
theorem ct_s2 (ls : List am_V) : ∀ (j : Nat) (v : am_V) {f : am_C → (am_S → Option am_R) → List am_V → Option am_R}, (∀ ls, am_Ct (fun c k => f c k ls)) → am_Ct (fun c k => am_s2 ls j v (f c k)) := by
  induction ls with
  | nil => intro j v f h; cases j <;> exact ct_c none
  | cons w ls ih =>
    obtain ⟨t, z⟩ := w
    intro j v f h
    cases j with
    | zero =>
      cases ls with
      | nil => exact ct_c none
      | cons w' ls => exact h _
    | succ j => exact ih j v (f := fun c k r => bif Nat.beq t 1 && Nat.beq j 0 then f c k ((9, 0) :: r) else f c k ((t, z) :: r)) fun r => ct_b _ (h _) (h _)
theorem ct_mask (b : List Bool) : ∀ (ls : List am_V) {f : am_C → (am_S → Option am_R) → List am_V → Option am_R}, (∀ ls, am_Ct (fun c k => f c k ls)) → am_Ct (fun c k => am_mask b ls (f c k)) := by
  induction b with
  | nil => intro ls f h; cases ls <;> exact h _
  | cons x b ih =>
    intro ls f h
    cases ls with
    | nil => cases x <;> exact h _
    | cons v ls =>
      cases x
      · exact ih ls (f := fun c k r => f c k ((9, 0) :: r)) fun r => h _
      · exact ih ls (f := fun c k r => f c k (v :: r)) fun r => h _
theorem ct_pop : ∀ (a : Nat) (as st : List am_V) {f : am_C → (am_S → Option am_R) → List am_V → List am_V → Option am_R}, (∀ as st, am_Ct (fun c k => f c k as st)) → am_Ct (fun c k => am_pop a as st (f c k)) := by
  intro a
  induction a with
  | zero => intro as st f h; exact h as st
  | succ a ih =>
    intro as st f h
    cases st with
    | nil => exact ct_c none
    | cons v st => exact ih (v :: as) st h
theorem ct_m (σ : am_M) {f : am_C → (am_S → Option am_R) → am_M → Option am_R} (h : ∀ σ, am_Ct (fun c k => f c k σ)) : am_Ct (fun c k => am_m σ (f c k)) := h σ
theorem ct_lit (x : Nat × Nat × Nat × Nat) {f : am_C → (am_S → Option am_R) → Nat → Int → Option am_R} (h : ∀ t z, am_Ct (fun c k => f c k t z)) : am_Ct (fun c k => am_lit x (f c k)) := ct_b _ (h _ _) (h _ _)
theorem ct_ii (st : List am_V) {f : am_C → (am_S → Option am_R) → Int → Int → List am_V → Option am_R} (h : ∀ a b st, am_Ct (fun c k => f c k a b st)) : am_Ct (fun c k => am_ii st (f c k)) :=
  ct_i1 st fun b st => ct_i1 st fun a st => h a b st
theorem ct_ll (st : List am_V) {f : am_C → (am_S → Option am_R) → Int → Int → List am_V → Option am_R} (h : ∀ a b st, am_Ct (fun c k => f c k a b st)) : am_Ct (fun c k => am_ll st (f c k)) :=
  ct_l1 st fun b st => ct_l1 st fun a st => h a b st
theorem ct_li (st : List am_V) {f : am_C → (am_S → Option am_R) → Int → Int → List am_V → Option am_R} (h : ∀ a b st, am_Ct (fun c k => f c k a b st)) : am_Ct (fun c k => am_li st (f c k)) :=
  ct_i1 st fun b st => ct_l1 st fun a st => h a b st
theorem ct_ix (r j : Int) {F : am_C → (am_S → Option am_R) → Option am_R} (hF : am_Ct F) : am_Ct (fun c k => am_ix r j (F c k)) := ct_if _ hF
theorem ct_cx (r j : Int) {F : am_C → (am_S → Option am_R) → Option am_R} (hF : am_Ct F) : am_Ct (fun c k => am_cx r j (F c k)) := ct_if _ hF
theorem ct_jmp (pc : Nat) (o : Int) {f : am_C → (am_S → Option am_R) → Nat → Option am_R} (h : ∀ t, am_Ct (fun c k => f c k t)) : am_Ct (fun c k => am_jmp pc o (f c k)) := ct_b _ (h _) (ct_c none)
theorem ct_cond (q : ClassFile.Cond) (a b : Int) {F G : am_C → (am_S → Option am_R) → Option am_R} (hF : am_Ct F) (hG : am_Ct G) : am_Ct (fun c k => am_cond q a b (F c k) (G c k)) := by
  cases q
  · exact ct_p _ hF hG
  · exact ct_p _ hG hF
  · exact ct_p _ hF hG
  · exact ct_p _ hG hF
  · exact ct_p _ hF hG
  · exact ct_p _ hG hF
theorem ct_tsw (a : Int) (pc : Nat) {D : am_C → (am_S → Option am_R) → Option am_R} (hD : am_Ct D) {f : am_C → (am_S → Option am_R) → Nat → Option am_R} (h : ∀ t, am_Ct (fun c k => f c k t)) :
    ∀ (os : List Int) (lo : Int), am_Ct (fun c k => am_sw a (D c k) (am_tsw pc (f c k) lo os)) := by
  intro os
  induction os with
  | nil => intro lo; exact hD
  | cons o os ih =>
    intro lo
    show am_Ct (fun c k => if a = lo then am_jmp pc o (f c k) else am_sw a (D c k) (am_tsw pc (f c k) (lo + 1) os))
    exact ct_p _ (ct_jmp pc o h) (ih (lo + 1))
theorem ct_lsw (a : Int) (pc : Nat) {D : am_C → (am_S → Option am_R) → Option am_R} (hD : am_Ct D) {f : am_C → (am_S → Option am_R) → Nat → Option am_R} (h : ∀ t, am_Ct (fun c k => f c k t)) :
    ∀ (os : List (Int × Int)), am_Ct (fun c k => am_sw a (D c k) (am_lsw pc (f c k) os)) := by
  intro os
  induction os with
  | nil => exact hD
  | cons o os ih =>
    show am_Ct (fun c k => if a = o.1 then am_jmp pc o.2 (f c k) else am_sw a (D c k) (am_lsw pc (f c k) os))
    exact ct_p _ (ct_jmp pc o.2 h) ih
theorem ct_bind (y : Nat) (as : List am_V) (σ : am_M) (n : Nat) {g : am_C → (am_S → Option am_R) → am_R → Option am_R} (S : am_R → am_S) (hg : ∀ c k q, g c k q = k (S q)) : am_Ct (fun c k => (c y as σ n).bind (g c k)) := by
  intro c k r h
  have h1 : (c y as σ n).bind (g c k) = some r := h
  cases hq : c y as σ n with
  | none => rw [hq] at h1; cases h1
  | some q =>
    rw [hq] at h1
    refine Or.inr (Or.inl ⟨y, as, σ, n, q, S q, hq, ?_, fun c' k' e1 e2 => ?_⟩)
    · rw [← hg c k q]; exact h1
    · show (c' y as σ n).bind (g c' k') = some r
      rw [e1]
      show g c' k' q = some r
      rw [hg]; exact e2
/-- what comes back from a call, without its continuation -/
def am_bk (rt : Nat) (z : Int) (st : List am_V) : List am_V := bif Nat.beq rt 9 then st else (rt, z) :: st
theorem am_back_bk (rt : Nat) (z : Int) (st : List am_V) (k : List am_V → Option am_R) : am_back rt z st k = k (am_bk rt z st) := by
  unfold am_back am_bk
  cases Nat.beq rt 9 <;> rfl
theorem ct_do (y a rt : Nat) (ok : Nat → Bool) (st : List am_V) {f : am_C → (am_S → Option am_R) → List am_V → am_M → Nat → Option am_R} (T : List am_V → am_M → Nat → am_S) (h : ∀ c k st σ n, f c k st σ n = k (T st σ n)) (σ : am_M) (n : Nat) : am_Ct (fun c k => am_do c y a rt ok st (f c k) σ n) :=
  ct_pop a [] st fun as st => ct_v1 as fun t z as' => ct_b _ (ct_if _ (ct_bind y as σ n (fun q => T (am_bk rt q.1 st) q.2.1 q.2.2) fun c k q => (am_back_bk _ _ _ _).trans (h c k _ _ _))) (ct_c none)
theorem ct_doS (y a rt : Nat) (st : List am_V) {f : am_C → (am_S → Option am_R) → List am_V → am_M → Nat → Option am_R} (T : List am_V → am_M → Nat → am_S) (h : ∀ c k st σ n, f c k st σ n = k (T st σ n)) (σ : am_M) (n : Nat) : am_Ct (fun c k => am_doS c y a rt st (f c k) σ n) :=
  ct_pop a [] st fun as st => ct_b _ (ct_bind y as σ n (fun q => T (am_bk rt q.1 st) q.2.1 q.2.2) fun c k q => (am_back_bk _ _ _ _).trans (h c k _ _ _)) (ct_c none)
theorem ct_acp (st : List am_V) {f : am_C → (am_S → Option am_R) → List am_V → am_M → Option am_R} (h : ∀ st σ, am_Ct (fun c k => f c k st σ)) (σ : am_M) : am_Ct (fun c k => am_acp st (f c k) σ) :=
  ct_i1 st fun z st => ct_i1 st fun dp st => ct_v1 st fun u b st => ct_i1 st fun sp st => ct_v1 st fun t a st => ct_b _ (ct_if _ (ct_m _ fun σ => h _ σ)) (ct_c none)
theorem ct_mth (y : Nat) (st : List am_V) {f : am_C → (am_S → Option am_R) → List am_V → Option am_R} (h : ∀ st, am_Ct (fun c k => f c k st)) : am_Ct (fun c k => am_mth y st (f c k)) :=
  ct_b _ (ct_ii st fun a b st => ct_b _ (h _) (ct_c none)) (ct_b _ (ct_ii st fun a b st => ct_b _ (h _) (ct_c none)) (ct_b _ (ct_ll st fun a b st => ct_b _ (h _) (ct_c none)) (ct_ll st fun a b st => ct_b _ (h _) (ct_c none))))
theorem ct_getf (md : Bool) (x : Nat × Nat × Nat × Nat) (st : List am_V) {f : am_C → (am_S → Option am_R) → List am_V → Option am_R} (h : ∀ st, am_Ct (fun c k => f c k st)) (σ : am_M) : am_Ct (fun c k => am_getf md x st (f c k) σ) :=
  ct_v1 st fun t r st => ct_b _ (ct_b _ (ct_b _ (h _) (h _)) (ct_c none)) (ct_b _ (ct_if _ (ct_b _ (h _) (h _))) (ct_c none))
theorem ct_putf (md : Bool) (x : Nat × Nat × Nat × Nat) (st : List am_V) {f : am_C → (am_S → Option am_R) → List am_V → am_M → Option am_R} (h : ∀ st σ, am_Ct (fun c k => f c k st σ)) (σ : am_M) : am_Ct (fun c k => am_putf md x st (f c k) σ) :=
  ct_v1 st fun u v st => ct_v1 st fun t r st => ct_b _ (ct_if _ (ct_b _ (ct_if _ (ct_m _ fun σ => h _ σ)) (ct_m _ fun σ => h _ σ))) (ct_c none)
set_option maxHeartbeats 4000000 in
theorem ct_ins (md : Bool) (y : Nat) (i : Instr) (nx : Nat) (x : Nat × Nat × Nat × Nat) (pc : Nat) (ls st : List am_V) (σ : am_M) (n : Nat) : am_Ct (fun c k => am_ins md y c k i nx x pc ls st σ n) := by
  cases i <;> dsimp only [am_ins] <;> first
    | exact ct_c none
    | exact ct_k _
    | exact ct_c _
    | exact ct_b _ (ct_k _) (ct_c none)
    | exact ct_ld _ _ fun t z => ct_b _ (ct_k _) (ct_c none)
    | exact ct_ld _ _ fun t z => ct_b _ (ct_s1 _ _ _ fun ls => ct_k _) (ct_c none)
    | exact ct_v1 st fun t z st => ct_b _ (ct_s1 _ _ _ fun ls => ct_k _) (ct_c none)
    | exact ct_i1 st fun z st => ct_s1 _ _ _ fun ls => ct_k _
    | exact ct_l1 st fun z st => ct_s2 _ _ _ fun ls => ct_k _
    | exact ct_lit _ fun t z => ct_k _
    | exact ct_i1 st fun z st => ct_k _
    | exact ct_l1 st fun z st => ct_k _
    | exact ct_ii st fun a b st => ct_k _
    | exact ct_ll st fun a b st => ct_k _
    | exact ct_li st fun a b st => ct_k _
    | exact ct_ii st fun a b st => ct_if _ (ct_k _)
    | exact ct_ll st fun a b st => ct_if _ (ct_k _)
    | exact ct_v1 st fun t z st => ct_b _ (ct_c none) (ct_k _)
    | exact ct_v1 st fun t z st => ct_v1 st fun u w st => ct_b _ (ct_c none) (ct_k _)
    | exact ct_i1 st fun a st => ct_cond _ _ _ (ct_k _) (ct_k _)
    | exact ct_v1 st fun t z st => ct_b _ (ct_p _ (ct_k _) (ct_k _)) (ct_c none)
    | exact ct_ii st fun a b st => ct_cond _ _ _ (ct_k _) (ct_k _)
    | exact ct_i1 st fun a st => ct_tsw _ _ (ct_jmp _ _ fun t => ct_k _) (fun t => ct_k _) _ _
    | exact ct_i1 st fun a st => ct_lsw _ _ (ct_jmp _ _ fun t => ct_k _) (fun t => ct_k _) _
    | exact ct_getf _ _ st (fun st => ct_k _) σ
    | exact ct_putf _ _ st (fun st σ => ct_k _) σ
    | exact ct_i1 st fun j st => ct_v1 st fun t r st => ct_b _ (ct_ix _ _ (ct_k _)) (ct_b _ (ct_cx _ _ (ct_k _)) (ct_c none))
    | exact ct_i1 st fun j st => ct_v1 st fun t r st => ct_b _ (ct_ix _ _ (ct_b _ (ct_k _) (ct_k _))) (ct_c none)
    | exact ct_i1 st fun j st => ct_v1 st fun t r st => ct_b _ (ct_ix _ _ (ct_k _)) (ct_c none)
    | exact ct_i1 st fun v st => ct_i1 st fun j st => ct_v1 st fun t r st => ct_b _ (ct_ix _ _ (ct_m _ fun σ => ct_k _)) (ct_c none)
    | exact ct_l1 st fun v st => ct_i1 st fun j st => ct_v1 st fun t r st => ct_b _ (ct_ix _ _ (ct_m _ fun σ => ct_k _)) (ct_c none)
    | exact ct_i1 st fun v st => ct_i1 st fun j st => ct_v1 st fun t r st => ct_b _ (ct_ix _ _ (ct_m _ fun σ => ct_k _)) (ct_b _ (ct_ix _ _ (ct_m _ fun σ => ct_k _)) (ct_c none))
    | exact ct_v1 st fun u v st => ct_i1 st fun j st => ct_v1 st fun t r st => ct_b _ (ct_if _ (ct_ix _ _ (ct_m _ fun σ => ct_k _))) (ct_c none)
    | exact ct_v1 st fun t r st => ct_b _ (ct_if _ (ct_k _)) (ct_b _ (ct_k _) (ct_c none))
    | exact ct_b _ (ct_m _ fun σ => ct_k _) (ct_c none)
    | exact ct_i1 st fun j st => ct_b _ (ct_if _ (ct_m _ fun σ => ct_k _)) (ct_c none)
    | exact ct_do _ _ _ _ st _ (fun _ _ _ _ _ => rfl) σ n
    | exact ct_b _ (ct_acp st (fun st σ => ct_k _) σ) (ct_b _ (ct_mth _ st fun st => ct_k _) (ct_doS _ _ _ st _ (fun _ _ _ _ _ => rfl) σ n))
    | exact ct_b _ (ct_v1 st fun t r st => ct_b _ (ct_if _ (ct_k _)) (ct_c none)) (ct_do _ _ _ _ st _ (fun _ _ _ _ _ => rfl) σ n)
theorem ct_stp (md : Bool) (y : Nat) (e : am_E) (S : am_S) : am_Ct (fun c k => am_stp md y c k e S) := by
  unfold am_stp am_live
  cases e.2.2.2 with
  | none => exact ct_ins _ _ _ _ _ _ _ _ _ _
  | some b => exact ct_mask b _ fun ls => ct_ins _ _ _ _ _ _ _ _ _ _
theorem ct_step (md : Bool) (y : Nat) (S : am_S) : am_Ct (fun c k => am_step md y c k S) := by
  unfold am_step
  cases am_code y S.1 with
  | none => exact ct_c none
  | some e => exact ct_stp _ _ _ _
/-- the callees with fuel f -/
def am_cf (md : Bool) (f d : Nat) : am_C := fun y' as σ n => match d with
  | 0 => none
  | d + 1 => am_ex md f d y' (am_entry y' as σ n)
theorem am_ex_s (md : Bool) (f d y : Nat) (S : am_S) : am_ex md (f + 1) d y S = am_step md y (am_cf md f d) (am_ex md f d y) S := rfl
theorem am_ex_mono1 (md : Bool) : ∀ (f d y : Nat) (S : am_S) (r : am_R), am_ex md f d y S = some r → am_ex md (f + 1) d y S = some r := by
  intro f
  induction f with
  | zero => intro d y S r h; cases h
  | succ f ih =>
    intro d y S r h
    rw [am_ex_s] at h ⊢
    rcases ct_step md y S _ _ r h with ⟨S', h1, h2⟩ | ⟨y', as, σ, n, q, S', h0, h1, h2⟩ | h2
    · exact h2 _ _ (ih d y S' r h1)
    · refine h2 _ _ ?_ (ih d y S' r h1)
      cases d with
      | zero => cases h0
      | succ d => exact ih d y' _ q h0
    · exact h2 _ _
theorem am_ex_mono {md : Bool} {f g d y : Nat} {S : am_S} {r : am_R} (h : am_ex md f d y S = some r) (hg : f ≤ g) : am_ex md g d y S = some r := by
  induction g with
  | zero => have : f = 0 := by omega
            subst this; exact h
  | succ g ih =>
    by_cases e : f = g + 1
    · subst e; exact h
    · exact am_ex_mono1 md g d y S r (ih (by omega))
noncomputable def am_run (md : Bool) (d y : Nat) (S : am_S) : Option am_R := @dite _ (∃ r f, am_ex md f d y S = some r) (Classical.propDecidable _) (fun h => some (Classical.choose h)) (fun _ => none)
theorem am_run_iff {md : Bool} {d y : Nat} {S : am_S} {r : am_R} : am_run md d y S = some r ↔ ∃ f, am_ex md f d y S = some r := by
  unfold am_run
  by_cases h : ∃ r f, am_ex md f d y S = some r
  · rw [dif_pos h]
    obtain ⟨f, hf⟩ := Classical.choose_spec h
    constructor
    · intro e
      exact ⟨f, by rw [hf]; exact e⟩
    · rintro ⟨g, hg⟩
      have a := am_ex_mono hf (Nat.le_max_left f g)
      have b := am_ex_mono hg (Nat.le_max_right f g)
      rw [a] at b
      exact b
  · rw [dif_neg h]
    constructor
    · intro e; cases e
    · intro e; exact absurd ⟨r, e⟩ h
noncomputable def am_cal (md : Bool) (d : Nat) : am_C := fun y' as σ n => match d with
  | 0 => none
  | d + 1 => am_run md d y' (am_entry y' as σ n)
theorem am_run_eq (md : Bool) (d y : Nat) (S : am_S) : am_run md d y S = am_step md y (am_cal md d) (am_run md d y) S := by
  have key : ∀ r, am_run md d y S = some r ↔ am_step md y (am_cal md d) (am_run md d y) S = some r := by
    intro r
    rw [am_run_iff]
    constructor
    · rintro ⟨f, hf⟩
      cases f with
      | zero => cases hf
      | succ f =>
        rw [am_ex_s] at hf
        rcases ct_step md y S _ _ r hf with ⟨S', h1, h2⟩ | ⟨y', as, σ, n, q, S', h0, h1, h2⟩ | h2
        · exact h2 _ _ (am_run_iff.mpr ⟨f, h1⟩)
        · refine h2 _ _ ?_ (am_run_iff.mpr ⟨f, h1⟩)
          cases d with
          | zero => cases h0
          | succ d => exact am_run_iff.mpr ⟨f, h0⟩
        · exact h2 _ _
    · intro h
      rcases ct_step md y S _ _ r h with ⟨S', h1, h2⟩ | ⟨y', as, σ, n, q, S', h0, h1, h2⟩ | h2
      · obtain ⟨f, hf⟩ := am_run_iff.mp h1
        exact ⟨f + 1, by rw [am_ex_s]; exact h2 _ _ hf⟩
      · cases d with
        | zero => cases h0
        | succ d =>
          obtain ⟨f, hf⟩ := am_run_iff.mp h1
          obtain ⟨g, hg⟩ := am_run_iff.mp (show am_run md d y' (am_entry y' as σ n) = some q from h0)
          exact ⟨max f g + 1, by rw [am_ex_s]; exact h2 _ _ (am_ex_mono hg (Nat.le_max_right f g)) (am_ex_mono hf (Nat.le_max_left f g))⟩
      · exact ⟨1, by rw [am_ex_s]; exact h2 _ _⟩
  cases h : am_run md d y S with
  | some r => exact ((key r).mp h).symm
  | none =>
    cases h2 : am_step md y (am_cal md d) (am_run md d y) S with
    | none => rfl
    | some r => rw [(key r).mpr h2] at h; cases h
theorem am_mask_idem : ∀ (b : List Bool) (l : List am_V) (k : List am_V → Option am_R), am_mask b l (fun l => am_mask b l k) = am_mask b l k := by
  intro b
  induction b with
  | nil => intro l k; simp [am_mask]
  | cons x b ih =>
    intro l k
    cases l with
    | nil => cases x <;> simp [am_mask]
    | cons v l => cases x <;> simp only [am_mask] <;> exact ih l _
theorem am_run_mask {md : Bool} {d y pc : Nat} {ls st : List am_V} {σ : am_M} {n : Nat} {e : am_E} {b : List Bool} (h : am_code y pc = some e) (hb : e.2.2.2 = some b) : am_mask b ls (fun ls => am_run md d y (pc, ls, st, σ, n)) = am_run md d y (pc, ls, st, σ, n) := by
  have key : ∀ ls, am_run md d y (pc, ls, st, σ, n) = am_mask b ls fun ls => am_ins md y (am_cal md d) (am_run md d y) e.1 e.2.1 e.2.2.1 pc ls st σ n := by
    intro ls
    rw [am_run_eq]
    unfold am_step
    rw [h]
    show am_live e.2.2.2 ls _ = _
    rw [hb]
    rfl
  rw [key ls]
  rw [show (fun ls => am_run md d y (pc, ls, st, σ, n)) = (fun ls => am_mask b ls fun ls => am_ins md y (am_cal md d) (am_run md d y) e.1 e.2.1 e.2.2.1 pc ls st σ n) from funext key]
  exact am_mask_idem b ls _
/-- a stretch of at most f steps up to the next place that has a mask -/
noncomputable def am_go (md : Bool) (d y : Nat) : Nat → am_E → am_S → Option am_R
  | 0, _, S => am_run md d y S
  | f + 1, e, S => am_stp md y (am_cal md d) (fun S' => match S' with
    | (pc, ls, st, σ, n) => match am_code y pc with
      | none => none
      | some e => match e.2.2.2 with
        | some b => am_mask b ls fun ls => am_run md d y (pc, ls, st, σ, n)
        | none => am_go md d y f e (pc, ls, st, σ, n)) e S
noncomputable def am_rn (md : Bool) (d y : Nat) (f : Nat) (S : am_S) : Option am_R := match am_code y S.1 with
  | none => none
  | some e => am_go md d y f e S
theorem am_go_eq (md : Bool) (d y : Nat) : ∀ (f : Nat) (e : am_E) (S : am_S), am_code y S.1 = some e → am_go md d y f e S = am_run md d y S := by
  intro f
  induction f with
  | zero => intro e S _; rfl
  | succ f ih =>
    intro e S he
    rw [am_run_eq]
    unfold am_step
    rw [he]
    show am_stp md y (am_cal md d) _ e S = am_stp md y (am_cal md d) (am_run md d y) e S
    congr 1
    funext S'
    obtain ⟨pc, ls, st, σ, n⟩ := S'
    show (match am_code y pc with
      | none => none
      | some e => match e.2.2.2 with
        | some b => am_mask b ls fun ls => am_run md d y (pc, ls, st, σ, n)
        | none => am_go md d y f e (pc, ls, st, σ, n)) = am_run md d y (pc, ls, st, σ, n)
    cases h : am_code y pc with
    | none =>
      rw [am_run_eq]
      unfold am_step
      rw [h]
    | some e' =>
      show (match e'.2.2.2 with
        | some b => am_mask b ls fun ls => am_run md d y (pc, ls, st, σ, n)
        | none => am_go md d y f e' (pc, ls, st, σ, n)) = am_run md d y (pc, ls, st, σ, n)
      cases hb : e'.2.2.2 with
      | none => exact ih e' (pc, ls, st, σ, n) h
      | some b => exact am_run_mask h hb
theorem am_rn_eq (md : Bool) (d y : Nat) (f : Nat) (S : am_S) : am_run md d y S = am_rn md d y f S := by
  unfold am_rn
  cases h : am_code y S.1 with
  | none =>
    rw [am_run_eq]
    unfold am_step
    rw [h]
  | some e => exact (am_go_eq md d y f e S h).symm
