/-! The number of cells never falls. -/
def am_Mn (n0 : Nat) (F : am_C → (am_S → Option am_R) → Option am_R) : Prop := ∀ c k r, F c k = some r → (∀ S, k S = some r → S.2.2.2.2 ≤ r.2.2) → (∀ y as σ n q, c y as σ n = some q → n ≤ q.2.2) → n0 ≤ r.2.2
theorem mn_c {n0 : Nat} (x : Option am_R) (hx : x = none := by rfl) : am_Mn n0 (fun _ _ => x) := fun _ _ r h => by rw [hx] at h; cases h
theorem mn_c3 {n0 : Nat} {x : Option am_R} (hx : ∀ r, x = some r → n0 ≤ r.2.2) : am_Mn n0 (fun _ _ => x) := fun _ _ r h _ _ => hx r h
theorem mn_k {n0 : Nat} (S : am_S) (hS : n0 ≤ S.2.2.2.2) : am_Mn n0 (fun _ k => k S) := fun _ _ r h hk _ => Nat.le_trans hS (hk S h)
theorem mn_b {n0 : Nat} (b : Bool) {F G : am_C → (am_S → Option am_R) → Option am_R} (hF : am_Mn n0 F) (hG : am_Mn n0 G) : am_Mn n0 (fun c k => bif b then F c k else G c k) := by
  cases b
  · exact hG
  · exact hF
theorem mn_p {n0 : Nat} (p : Prop) {dp : Decidable p} {F G : am_C → (am_S → Option am_R) → Option am_R} (hF : am_Mn n0 F) (hG : am_Mn n0 G) : am_Mn n0 (fun c k => @ite _ p dp (F c k) (G c k)) := by
  by_cases h : p
  · simp only [if_pos h]; exact hF
  · simp only [if_neg h]; exact hG
theorem mn_if {n0 : Nat} (p : Prop) {dp : Decidable p} {F : am_C → (am_S → Option am_R) → Option am_R} (hF : am_Mn n0 F) : am_Mn n0 (fun c k => @am_if p dp (F c k)) := mn_p p hF (mn_c none)
theorem mn_v1 {n0 : Nat} (st : List am_V) {f : am_C → (am_S → Option am_R) → Nat → Int → List am_V → Option am_R} (h : ∀ t z st, am_Mn n0 (fun c k => f c k t z st)) : am_Mn n0 (fun c k => am_v1 st (f c k)) := by
  cases st with
  | nil => exact mn_c none
  | cons v st => obtain ⟨t, z⟩ := v; exact h t z st
theorem mn_i1 {n0 : Nat} (st : List am_V) {f : am_C → (am_S → Option am_R) → Int → List am_V → Option am_R} (h : ∀ z st, am_Mn n0 (fun c k => f c k z st)) : am_Mn n0 (fun c k => am_i1 st (f c k)) := mn_v1 st fun t z st => mn_b _ (h z st) (mn_c none)
theorem mn_l1 {n0 : Nat} (st : List am_V) {f : am_C → (am_S → Option am_R) → Int → List am_V → Option am_R} (h : ∀ z st, am_Mn n0 (fun c k => f c k z st)) : am_Mn n0 (fun c k => am_l1 st (f c k)) := mn_v1 st fun t z st => mn_b _ (h z st) (mn_c none)
theorem mn_ld {n0 : Nat} (ls : List am_V) : ∀ (j : Nat) {f : am_C → (am_S → Option am_R) → Nat → Int → Option am_R}, (∀ t z, am_Mn n0 (fun c k => f c k t z)) → am_Mn n0 (fun c k => am_ld ls j (f c k)) := by
  induction ls with
  | nil => intro j f h; exact mn_c none
  | cons v ls ih =>
    obtain ⟨t, z⟩ := v
    intro j f h
    cases j with
    | zero => exact h t z
    | succ j => exact ih j h
theorem mn_s1 {n0 : Nat} (ls : List am_V) : ∀ (j : Nat) (v : am_V) {f : am_C → (am_S → Option am_R) → List am_V → Option am_R}, (∀ ls, am_Mn n0 (fun c k => f c k ls)) → am_Mn n0 (fun c k => am_s1 ls j v (f c k)) := by
  induction ls with
  | nil => intro j v f h; exact mn_c none
  | cons w ls ih =>
    obtain ⟨t, z⟩ := w
    intro j v f h
    cases j with
    | zero => exact h _
    | succ j => exact ih j v (f := fun c k r => bif Nat.beq t 1 && Nat.beq j 0 then f c k ((9, 0) :: r) else f c k ((t, z) :: r)) fun r => mn_b _ (h _) (h _)
theorem mn_s2 {n0 : Nat} (ls : List am_V) : ∀ (j : Nat) (v : am_V) {f : am_C → (am_S → Option am_R) → List am_V → Option am_R}, (∀ ls, am_Mn n0 (fun c k => f c k ls)) → am_Mn n0 (fun c k => am_s2 ls j v (f c k)) := by
  induction ls with
  | nil => intro j v f h; cases j <;> exact mn_c none
  | cons w ls ih =>
    obtain ⟨t, z⟩ := w
    intro j v f h
    cases j with
    | zero =>
      cases ls with
      | nil => exact mn_c none
      | cons w' ls => exact h _
    | succ j => exact ih j v (f := fun c k r => bif Nat.beq t 1 && Nat.beq j 0 then f c k ((9, 0) :: r) else f c k ((t, z) :: r)) fun r => mn_b _ (h _) (h _)
theorem mn_mask {n0 : Nat} (b : List Bool) : ∀ (ls : List am_V) {f : am_C → (am_S → Option am_R) → List am_V → Option am_R}, (∀ ls, am_Mn n0 (fun c k => f c k ls)) → am_Mn n0 (fun c k => am_mask b ls (f c k)) := by
  induction b with
  | nil => intro ls f h; cases ls <;> exact h _
  | cons x b ih =>
    intro ls f h
    cases ls with
    | nil => cases x <;> exact h _
    | cons v ls =>
      cases x
      · exact ih ls (f := fun c k r => f c k ((9, 0) :: r)) fun r => h _
      · exact ih ls (f := fun c k r => f c k (v :: r)) fun r => h _
theorem mn_pop {n0 : Nat} : ∀ (a : Nat) (as st : List am_V) {f : am_C → (am_S → Option am_R) → List am_V → List am_V → Option am_R}, (∀ as st, am_Mn n0 (fun c k => f c k as st)) → am_Mn n0 (fun c k => am_pop a as st (f c k)) := by
  intro a
  induction a with
  | zero => intro as st f h; exact h as st
  | succ a ih =>
    intro as st f h
    cases st with
    | nil => exact mn_c none
    | cons v st => exact ih (v :: as) st h
theorem mn_m {n0 : Nat} (σ : am_M) {f : am_C → (am_S → Option am_R) → am_M → Option am_R} (h : ∀ σ, am_Mn n0 (fun c k => f c k σ)) : am_Mn n0 (fun c k => am_m σ (f c k)) := h σ
theorem mn_lit {n0 : Nat} (x : Nat × Nat × Nat × Nat) {f : am_C → (am_S → Option am_R) → Nat → Int → Option am_R} (h : ∀ t z, am_Mn n0 (fun c k => f c k t z)) : am_Mn n0 (fun c k => am_lit x (f c k)) := mn_b _ (h _ _) (h _ _)
theorem mn_ii {n0 : Nat} (st : List am_V) {f : am_C → (am_S → Option am_R) → Int → Int → List am_V → Option am_R} (h : ∀ a b st, am_Mn n0 (fun c k => f c k a b st)) : am_Mn n0 (fun c k => am_ii st (f c k)) :=
  mn_i1 st fun b st => mn_i1 st fun a st => h a b st
theorem mn_ll {n0 : Nat} (st : List am_V) {f : am_C → (am_S → Option am_R) → Int → Int → List am_V → Option am_R} (h : ∀ a b st, am_Mn n0 (fun c k => f c k a b st)) : am_Mn n0 (fun c k => am_ll st (f c k)) :=
  mn_l1 st fun b st => mn_l1 st fun a st => h a b st
theorem mn_li {n0 : Nat} (st : List am_V) {f : am_C → (am_S → Option am_R) → Int → Int → List am_V → Option am_R} (h : ∀ a b st, am_Mn n0 (fun c k => f c k a b st)) : am_Mn n0 (fun c k => am_li st (f c k)) :=
  mn_i1 st fun b st => mn_l1 st fun a st => h a b st
theorem mn_ix {n0 : Nat} (r j : Int) {F : am_C → (am_S → Option am_R) → Option am_R} (hF : am_Mn n0 F) : am_Mn n0 (fun c k => am_ix r j (F c k)) := mn_if _ hF
theorem mn_cx {n0 : Nat} (r j : Int) {F : am_C → (am_S → Option am_R) → Option am_R} (hF : am_Mn n0 F) : am_Mn n0 (fun c k => am_cx r j (F c k)) := mn_if _ hF
theorem mn_jmp {n0 : Nat} (pc : Nat) (o : Int) {f : am_C → (am_S → Option am_R) → Nat → Option am_R} (h : ∀ t, am_Mn n0 (fun c k => f c k t)) : am_Mn n0 (fun c k => am_jmp pc o (f c k)) := mn_b _ (h _) (mn_c none)
theorem mn_cond {n0 : Nat} (q : ClassFile.Cond) (a b : Int) {F G : am_C → (am_S → Option am_R) → Option am_R} (hF : am_Mn n0 F) (hG : am_Mn n0 G) : am_Mn n0 (fun c k => am_cond q a b (F c k) (G c k)) := by
  cases q
  · exact mn_p _ hF hG
  · exact mn_p _ hG hF
  · exact mn_p _ hF hG
  · exact mn_p _ hG hF
  · exact mn_p _ hF hG
  · exact mn_p _ hG hF
theorem mn_tsw {n0 : Nat} (a : Int) (pc : Nat) {D : am_C → (am_S → Option am_R) → Option am_R} (hD : am_Mn n0 D) {f : am_C → (am_S → Option am_R) → Nat → Option am_R} (h : ∀ t, am_Mn n0 (fun c k => f c k t)) :
    ∀ (os : List Int) (lo : Int), am_Mn n0 (fun c k => am_sw a (D c k) (am_tsw pc (f c k) lo os)) := by
  intro os
  induction os with
  | nil => intro lo; exact hD
  | cons o os ih =>
    intro lo
    show am_Mn n0 (fun c k => if a = lo then am_jmp pc o (f c k) else am_sw a (D c k) (am_tsw pc (f c k) (lo + 1) os))
    exact mn_p _ (mn_jmp pc o h) (ih (lo + 1))
theorem mn_lsw {n0 : Nat} (a : Int) (pc : Nat) {D : am_C → (am_S → Option am_R) → Option am_R} (hD : am_Mn n0 D) {f : am_C → (am_S → Option am_R) → Nat → Option am_R} (h : ∀ t, am_Mn n0 (fun c k => f c k t)) :
    ∀ (os : List (Int × Int)), am_Mn n0 (fun c k => am_sw a (D c k) (am_lsw pc (f c k) os)) := by
  intro os
  induction os with
  | nil => exact hD
  | cons o os ih =>
    show am_Mn n0 (fun c k => if a = o.1 then am_jmp pc o.2 (f c k) else am_sw a (D c k) (am_lsw pc (f c k) os))
    exact mn_p _ (mn_jmp pc o.2 h) ih
theorem mn_bind {n0 : Nat} (y : Nat) (as : List am_V) (σ : am_M) (n : Nat) (hn : n0 ≤ n) {g : am_C → (am_S → Option am_R) → am_R → Option am_R} (S : am_R → am_S) (hS : ∀ q, q.2.2 ≤ (S q).2.2.2.2) (hg : ∀ c k q, g c k q = k (S q)) : am_Mn n0 (fun c k => (c y as σ n).bind (g c k)) := by
  intro c k r h hk hc
  have h1 : (c y as σ n).bind (g c k) = some r := h
  cases hq : c y as σ n with
  | none => rw [hq] at h1; cases h1
  | some q =>
    rw [hq] at h1
    have h2 : g c k q = some r := h1
    rw [hg] at h2
    exact Nat.le_trans hn (Nat.le_trans (hc _ _ _ _ _ hq) (Nat.le_trans (hS q) (hk _ h2)))
theorem mn_do {n0 : Nat} (y a rt : Nat) (ok : Nat → Bool) (st : List am_V) {f : am_C → (am_S → Option am_R) → List am_V → am_M → Nat → Option am_R} (T : List am_V → am_M → Nat → am_S) (h : ∀ c k st σ n, f c k st σ n = k (T st σ n)) (hT : ∀ st σ n, n ≤ (T st σ n).2.2.2.2) (σ : am_M) (n : Nat) (hn : n0 ≤ n) : am_Mn n0 (fun c k => am_do c y a rt ok st (f c k) σ n) :=
  mn_pop a [] st fun as st => mn_v1 as fun t z as' => mn_b _ (mn_if _ (mn_bind y as σ n hn (fun q => T (am_bk rt q.1 st) q.2.1 q.2.2) (fun q => hT _ _ _) fun c k q => (am_back_bk _ _ _ _).trans (h c k _ _ _))) (mn_c none)
theorem mn_doS {n0 : Nat} (y a rt : Nat) (st : List am_V) {f : am_C → (am_S → Option am_R) → List am_V → am_M → Nat → Option am_R} (T : List am_V → am_M → Nat → am_S) (h : ∀ c k st σ n, f c k st σ n = k (T st σ n)) (hT : ∀ st σ n, n ≤ (T st σ n).2.2.2.2) (σ : am_M) (n : Nat) (hn : n0 ≤ n) : am_Mn n0 (fun c k => am_doS c y a rt st (f c k) σ n) :=
  mn_pop a [] st fun as st => mn_b _ (mn_bind y as σ n hn (fun q => T (am_bk rt q.1 st) q.2.1 q.2.2) (fun q => hT _ _ _) fun c k q => (am_back_bk _ _ _ _).trans (h c k _ _ _)) (mn_c none)
theorem mn_acp {n0 : Nat} (st : List am_V) {f : am_C → (am_S → Option am_R) → List am_V → am_M → Option am_R} (h : ∀ st σ, am_Mn n0 (fun c k => f c k st σ)) (σ : am_M) : am_Mn n0 (fun c k => am_acp st (f c k) σ) :=
  mn_i1 st fun z st => mn_i1 st fun dp st => mn_v1 st fun u b st => mn_i1 st fun sp st => mn_v1 st fun t a st => mn_b _ (mn_if _ (mn_m _ fun σ => h _ σ)) (mn_c none)
theorem mn_mth {n0 : Nat} (y : Nat) (st : List am_V) {f : am_C → (am_S → Option am_R) → List am_V → Option am_R} (h : ∀ st, am_Mn n0 (fun c k => f c k st)) : am_Mn n0 (fun c k => am_mth y st (f c k)) :=
  mn_b _ (mn_ii st fun a b st => mn_b _ (h _) (mn_c none)) (mn_b _ (mn_ii st fun a b st => mn_b _ (h _) (mn_c none)) (mn_b _ (mn_ll st fun a b st => mn_b _ (h _) (mn_c none)) (mn_ll st fun a b st => mn_b _ (h _) (mn_c none))))
theorem mn_getf {n0 : Nat} (md : Bool) (x : Nat × Nat × Nat × Nat) (st : List am_V) {f : am_C → (am_S → Option am_R) → List am_V → Option am_R} (h : ∀ st, am_Mn n0 (fun c k => f c k st)) (σ : am_M) : am_Mn n0 (fun c k => am_getf md x st (f c k) σ) :=
  mn_v1 st fun t r st => mn_b _ (mn_b _ (mn_b _ (h _) (h _)) (mn_c none)) (mn_b _ (mn_if _ (mn_b _ (h _) (h _))) (mn_c none))
theorem mn_putf {n0 : Nat} (md : Bool) (x : Nat × Nat × Nat × Nat) (st : List am_V) {f : am_C → (am_S → Option am_R) → List am_V → am_M → Option am_R} (h : ∀ st σ, am_Mn n0 (fun c k => f c k st σ)) (σ : am_M) : am_Mn n0 (fun c k => am_putf md x st (f c k) σ) :=
  mn_v1 st fun u v st => mn_v1 st fun t r st => mn_b _ (mn_if _ (mn_b _ (mn_if _ (mn_m _ fun σ => h _ σ)) (mn_m _ fun σ => h _ σ))) (mn_c none)
set_option maxHeartbeats 4000000 in
theorem mn_ins (md : Bool) (y : Nat) (i : Instr) (nx : Nat) (x : Nat × Nat × Nat × Nat) (pc : Nat) (ls st : List am_V) (σ : am_M) (n : Nat) : am_Mn n (fun c k => am_ins md y c k i nx x pc ls st σ n) := by
  cases i with
  | iconst z => exact mn_b _ (mn_k _ (Nat.le_refl _)) (mn_c none)
  | bipush z => exact mn_b _ (mn_k _ (Nat.le_refl _)) (mn_c none)
  | sipush z => exact mn_b _ (mn_k _ (Nat.le_refl _)) (mn_c none)
  | lconst z => exact mn_k _ (Nat.le_refl _)
  | aconst_null => exact mn_b _ (mn_k _ (Nat.le_refl _)) (mn_c none)
  | iload j => exact mn_ld _ _ fun t z => mn_b _ (mn_k _ (Nat.le_refl _)) (mn_c none)
  | iload_n j => exact mn_ld _ _ fun t z => mn_b _ (mn_k _ (Nat.le_refl _)) (mn_c none)
  | lload j => exact mn_ld _ _ fun t z => mn_b _ (mn_k _ (Nat.le_refl _)) (mn_c none)
  | lload_n j => exact mn_ld _ _ fun t z => mn_b _ (mn_k _ (Nat.le_refl _)) (mn_c none)
  | aload j => exact mn_ld _ _ fun t z => mn_b _ (mn_k _ (Nat.le_refl _)) (mn_c none)
  | aload_n j => exact mn_ld _ _ fun t z => mn_b _ (mn_k _ (Nat.le_refl _)) (mn_c none)
  | astore j => exact mn_v1 st fun t z st => mn_b _ (mn_s1 _ _ _ fun ls => mn_k _ (Nat.le_refl _)) (mn_c none)
  | astore_n j => exact mn_v1 st fun t z st => mn_b _ (mn_s1 _ _ _ fun ls => mn_k _ (Nat.le_refl _)) (mn_c none)
  | istore j => exact mn_i1 st fun z st => mn_s1 _ _ _ fun ls => mn_k _ (Nat.le_refl _)
  | istore_n j => exact mn_i1 st fun z st => mn_s1 _ _ _ fun ls => mn_k _ (Nat.le_refl _)
  | lstore j => exact mn_l1 st fun z st => mn_s2 _ _ _ fun ls => mn_k _ (Nat.le_refl _)
  | lstore_n j => exact mn_l1 st fun z st => mn_s2 _ _ _ fun ls => mn_k _ (Nat.le_refl _)
  | iinc j c => exact mn_ld _ _ fun t z => mn_b _ (mn_s1 _ _ _ fun ls => mn_k _ (Nat.le_refl _)) (mn_c none)
  | ldc j => exact mn_lit x (f := fun _ k t z => k (nx, ls, (t, z) :: st, σ, n)) fun t z => mn_k (nx, ls, (t, z) :: st, σ, n) (Nat.le_refl _)
  | ldc_w j => exact mn_lit x (f := fun _ k t z => k (nx, ls, (t, z) :: st, σ, n)) fun t z => mn_k (nx, ls, (t, z) :: st, σ, n) (Nat.le_refl _)
  | ldc2_w j => exact mn_lit x (f := fun _ k t z => k (nx, ls, (t, z) :: st, σ, n)) fun t z => mn_k (nx, ls, (t, z) :: st, σ, n) (Nat.le_refl _)
  | getstatic j => exact mn_lit x (f := fun _ k t z => k (nx, ls, (t, z) :: st, σ, n)) fun t z => mn_k (nx, ls, (t, z) :: st, σ, n) (Nat.le_refl _)
  | iadd => exact mn_ii st fun a b st => mn_k _ (Nat.le_refl _)
  | isub => exact mn_ii st fun a b st => mn_k _ (Nat.le_refl _)
  | imul => exact mn_ii st fun a b st => mn_k _ (Nat.le_refl _)
  | iand => exact mn_ii st fun a b st => mn_k _ (Nat.le_refl _)
  | ior => exact mn_ii st fun a b st => mn_k _ (Nat.le_refl _)
  | ixor => exact mn_ii st fun a b st => mn_k _ (Nat.le_refl _)
  | ishl => exact mn_ii st fun a b st => mn_k _ (Nat.le_refl _)
  | ishr => exact mn_ii st fun a b st => mn_k _ (Nat.le_refl _)
  | iushr => exact mn_ii st fun a b st => mn_k _ (Nat.le_refl _)
  | idiv => exact mn_ii st fun a b st => mn_if _ (mn_k _ (Nat.le_refl _))
  | irem => exact mn_ii st fun a b st => mn_if _ (mn_k _ (Nat.le_refl _))
  | ineg => exact mn_i1 st fun z st => mn_k _ (Nat.le_refl _)
  | i2l => exact mn_i1 st fun z st => mn_k _ (Nat.le_refl _)
  | i2b => exact mn_i1 st fun z st => mn_k _ (Nat.le_refl _)
  | i2s => exact mn_i1 st fun z st => mn_k _ (Nat.le_refl _)
  | i2c => exact mn_i1 st fun z st => mn_k _ (Nat.le_refl _)
  | lneg => exact mn_l1 st fun z st => mn_k _ (Nat.le_refl _)
  | l2i => exact mn_l1 st fun z st => mn_k _ (Nat.le_refl _)
  | pop2 => exact mn_l1 st fun z st => mn_k _ (Nat.le_refl _)
  | ladd => exact mn_ll st fun a b st => mn_k _ (Nat.le_refl _)
  | lsub => exact mn_ll st fun a b st => mn_k _ (Nat.le_refl _)
  | lmul => exact mn_ll st fun a b st => mn_k _ (Nat.le_refl _)
  | land => exact mn_ll st fun a b st => mn_k _ (Nat.le_refl _)
  | lor => exact mn_ll st fun a b st => mn_k _ (Nat.le_refl _)
  | lxor => exact mn_ll st fun a b st => mn_k _ (Nat.le_refl _)
  | lcmp => exact mn_ll st fun a b st => mn_k _ (Nat.le_refl _)
  | ldiv => exact mn_ll st fun a b st => mn_if _ (mn_k _ (Nat.le_refl _))
  | lshl => exact mn_li st fun a b st => mn_k _ (Nat.le_refl _)
  | lshr => exact mn_li st fun a b st => mn_k _ (Nat.le_refl _)
  | lushr => exact mn_li st fun a b st => mn_k _ (Nat.le_refl _)
  | dup => exact mn_v1 st fun t z st => mn_b _ (mn_c none) (mn_k _ (Nat.le_refl _))
  | dup2 => exact mn_v1 st fun t z st => mn_v1 st fun u w st => mn_b _ (mn_c none) (mn_k _ (Nat.le_refl _))
  | pop => exact mn_v1 st fun t z st => mn_b _ (mn_c none) (mn_k _ (Nat.le_refl _))
  | goto o => exact mn_k _ (Nat.le_refl _)
  | ifCond c o => exact mn_i1 st fun a st => mn_cond _ _ _ (mn_k _ (Nat.le_refl _)) (mn_k _ (Nat.le_refl _))
  | if_icmp c o => exact mn_ii st fun a b st => mn_cond _ _ _ (mn_k _ (Nat.le_refl _)) (mn_k _ (Nat.le_refl _))
  | ifnonnull o => exact mn_v1 st fun t z st => mn_b _ (mn_p _ (mn_k _ (Nat.le_refl _)) (mn_k _ (Nat.le_refl _))) (mn_c none)
  | tableswitch o lo hi os => exact mn_i1 st fun a st => mn_tsw a pc (D := fun _ k => am_jmp pc o (fun t => k (t, ls, st, σ, n))) (mn_jmp pc o (f := fun _ k t => k (t, ls, st, σ, n)) fun t => mn_k (t, ls, st, σ, n) (Nat.le_refl _)) (f := fun _ k t => k (t, ls, st, σ, n)) (fun t => mn_k (t, ls, st, σ, n) (Nat.le_refl _)) os.toList lo
  | lookupswitch o ps => exact mn_i1 st fun a st => mn_lsw a pc (D := fun _ k => am_jmp pc o (fun t => k (t, ls, st, σ, n))) (mn_jmp pc o (f := fun _ k t => k (t, ls, st, σ, n)) fun t => mn_k (t, ls, st, σ, n) (Nat.le_refl _)) (f := fun _ k t => k (t, ls, st, σ, n)) (fun t => mn_k (t, ls, st, σ, n) (Nat.le_refl _)) ps.toList
  | getfield j => exact mn_getf md x st (f := fun _ k st => k (nx, ls, st, σ, n)) (fun st => mn_k (nx, ls, st, σ, n) (Nat.le_refl _)) σ
  | putfield j => exact mn_putf md x st (f := fun _ k st σ => k (nx, ls, st, σ, n)) (fun st σ => mn_k (nx, ls, st, σ, n) (Nat.le_refl _)) σ
  | iaload => exact mn_i1 st fun j st => mn_v1 st fun t r st => mn_b _ (mn_ix _ _ (mn_k _ (Nat.le_refl _))) (mn_b _ (mn_cx _ _ (mn_k _ (Nat.le_refl _))) (mn_c none))
  | baload => exact mn_i1 st fun j st => mn_v1 st fun t r st => mn_b _ (mn_ix _ _ (mn_k _ (Nat.le_refl _))) (mn_b _ (mn_cx _ _ (mn_k _ (Nat.le_refl _))) (mn_c none))
  | laload => exact mn_i1 st fun j st => mn_v1 st fun t r st => mn_b _ (mn_ix _ _ (mn_k _ (Nat.le_refl _))) (mn_c none)
  | aaload => exact mn_i1 st fun j st => mn_v1 st fun t r st => mn_b _ (mn_ix _ _ (mn_b _ (mn_k _ (Nat.le_refl _)) (mn_k _ (Nat.le_refl _)))) (mn_c none)
  | iastore => exact mn_i1 st fun v st => mn_i1 st fun j st => mn_v1 st fun t r st => mn_b _ (mn_ix _ _ (mn_m _ fun σ => mn_k _ (Nat.le_refl _))) (mn_c none)
  | lastore => exact mn_l1 st fun v st => mn_i1 st fun j st => mn_v1 st fun t r st => mn_b _ (mn_ix _ _ (mn_m _ fun σ => mn_k _ (Nat.le_refl _))) (mn_c none)
  | bastore => exact mn_i1 st fun v st => mn_i1 st fun j st => mn_v1 st fun t r st => mn_b _ (mn_ix _ _ (mn_m _ fun σ => mn_k _ (Nat.le_refl _))) (mn_b _ (mn_ix _ _ (mn_m _ fun σ => mn_k _ (Nat.le_refl _))) (mn_c none))
  | aastore => exact mn_v1 st fun u v st => mn_i1 st fun j st => mn_v1 st fun t r st => mn_b _ (mn_if _ (mn_ix _ _ (mn_m _ fun σ => mn_k _ (Nat.le_refl _)))) (mn_c none)
  | arraylength => exact mn_v1 st fun t r st => mn_b _ (mn_if _ (mn_k _ (Nat.le_refl _))) (mn_b _ (mn_k _ (Nat.le_refl _)) (mn_c none))
  | new j => exact mn_b _ (mn_m _ fun σ => mn_k _ (Nat.le_succ _)) (mn_c none)
  | newarray t => exact mn_i1 st fun j st => mn_b _ (mn_if _ (mn_m _ fun σ => mn_k _ (Nat.le_succ _))) (mn_c none)
  | anewarray j => exact mn_i1 st fun j st => mn_b _ (mn_if _ (mn_m _ fun σ => mn_k _ (Nat.le_succ _))) (mn_c none)
  | invokevirtual j => exact mn_do (n0 := n) (f := fun _ k st σ n => k (nx, ls, st, σ, n)) x.1 x.2.1 x.2.2.2 (fun t => Nat.beq t x.2.2.1) st (fun st σ n => (nx, ls, st, σ, n)) (fun _ _ _ _ _ => rfl) (fun _ _ _ => Nat.le_refl _) σ n (Nat.le_refl _)
  | invokestatic j => exact mn_b _ (mn_acp st (f := fun _ k st σ => k (nx, ls, st, σ, n)) (fun st σ => mn_k (nx, ls, st, σ, n) (Nat.le_refl _)) σ) (mn_b _ (mn_mth x.1 st (f := fun _ k st => k (nx, ls, st, σ, n)) fun st => mn_k (nx, ls, st, σ, n) (Nat.le_refl _)) (mn_doS (n0 := n) (f := fun _ k st σ n => k (nx, ls, st, σ, n)) x.1 x.2.1 x.2.2.2 st (fun st σ n => (nx, ls, st, σ, n)) (fun _ _ _ _ _ => rfl) (fun _ _ _ => Nat.le_refl _) σ n (Nat.le_refl _)))
  | invokespecial j => exact mn_b _ (mn_v1 st fun t r st => mn_b _ (mn_if _ (mn_k _ (Nat.le_refl _))) (mn_c none)) (mn_do (n0 := n) (f := fun _ k st σ n => k (nx, ls, st, σ, n)) x.1 x.2.1 9 (fun t => Nat.beq t x.2.2.2) st (fun st σ n => (nx, ls, st, σ, n)) (fun _ _ _ _ _ => rfl) (fun _ _ _ => Nat.le_refl _) σ n (Nat.le_refl _))
  | ireturn =>
    exact mn_c3 fun r h => by
      obtain ⟨z, st', est, h1⟩ := am_i1_some h
      obtain ⟨hs, h2⟩ := am_ret_some h1
      obtain ⟨-, -, h3⟩ := am_zr_some h2
      cases Option.some.inj h3
      exact Nat.le_refl _
  | lreturn =>
    exact mn_c3 fun r h => by
      obtain ⟨z, st', est, h1⟩ := am_l1_some h
      obtain ⟨hs, h2⟩ := am_ret_some h1
      obtain ⟨-, h3⟩ := am_bif_some h2
      cases Option.some.inj h3
      exact Nat.le_refl _
  | areturn =>
    exact mn_c3 fun r h => by
      obtain ⟨t, z, st', est, h1⟩ := am_v1_some h
      obtain ⟨hs, h2⟩ := am_ret_some h1
      obtain ⟨-, h3⟩ := am_bif_some h2
      cases Option.some.inj h3
      exact Nat.le_refl _
  | return_ =>
    exact mn_c3 fun r h => by
      obtain ⟨hs, h2⟩ := am_ret_some h
      obtain ⟨-, h3⟩ := am_bif_some h2
      cases Option.some.inj h3
      exact Nat.le_refl _
  | _ => exact mn_c none
theorem mn_stp (md : Bool) (y : Nat) (e : am_E) (S : am_S) : am_Mn S.2.2.2.2 (fun c k => am_stp md y c k e S) := by
  unfold am_stp am_live
  cases e.2.2.2 with
  | none => exact mn_ins _ _ _ _ _ _ _ _ _ _
  | some b => exact mn_mask b _ fun ls => mn_ins _ _ _ _ _ _ _ _ _ _
theorem mn_step (md : Bool) (y : Nat) (S : am_S) : am_Mn S.2.2.2.2 (fun c k => am_step md y c k S) := by
  unfold am_step
  cases am_code y S.1 with
  | none => exact mn_c none
  | some e => exact mn_stp _ _ _ _
theorem am_ex_n (md : Bool) : ∀ (f d y : Nat) (S : am_S) (r : am_R), am_ex md f d y S = some r → S.2.2.2.2 ≤ r.2.2 := by
  intro f
  induction f with
  | zero => intro d y S r h; cases h
  | succ f ih =>
    intro d y S r h
    rw [am_ex_s] at h
    refine mn_step md y S _ _ r h (fun S' h' => ih d y S' r h') (fun y' as σ n q hq => ?_)
    cases d with
    | zero => cases hq
    | succ d => exact ih d y' _ q hq
