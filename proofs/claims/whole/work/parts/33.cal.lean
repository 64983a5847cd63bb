theorem am_St_to {B0 : Nat} {ka : Nat → Nat} {vF : Value} {u U : State} {H H1 : Heap} (hvm : u.vm.Alike U.vm) (hR : ∀ (own : String) (k : Nat) (tx : String) (a : Nat), vk_R own k tx a u → vk_R own k tx a U) (hN : ∀ w ∈ am_nest, va_Nw w u → va_Nw w U) (hq : ∀ a : Nat, a < H.size → ¬ B0 ≤ a → H1[a]? = H[a]?) (h : am_St B0 ka vF u H) : am_St B0 ka vF U H1 := by
  obtain ⟨h1, h2, h3, h4, h5, h6, h7, h8⟩ := h
  refine ⟨fun j hj => ⟨((h1 j hj).1.moved hvm).kept hq, ((h1 j hj).2.moved hvm).kept hq⟩, (h2.moved hvm).kept hq, (h3.moved hvm).kept hq, h4, (h5.moved hvm).kept hq, fun e he => hR _ _ _ _ (h6 e he), fun w hw => hN w hw (h7 w hw), h8.moved hvm⟩
def am_isN : Cond → Bool
  | .methodLinkNest _ _ _ _ => true
  | .fieldLinkNest _ _ _ _ _ _ => true
  | _ => false
theorem am_nest_k : ∀ w ∈ am_nest, am_isN w = true := by
  have : am_nest.all am_isN = true := rfl
  exact fun w hw => List.all_eq_true.mp this w hw
theorem am_Nw_warm {w : Cond} {s U : State} (hw : am_isN w = true) (hW : s.WarmedH U.vm) (h : va_Nw w s) : va_Nw w U := by
  cases w <;> first | (exact va_Nw.warmM hW h) | (exact va_Nw.warmF hW h) | (cases hw)
theorem am_Nw_same {w : Cond} {s U : State} (hw : am_isN w = true) (hv : s.vm = U.vm) (h : va_Nw w s) : va_Nw w U := by
  cases w <;> first | (exact va_Nw.same rfl hv h) | (cases hw)
theorem am_St_warm {B0 : Nat} {ka : Nat → Nat} {vF : Value} {s U : State} {H : Heap} {locs : List Loc} (hS : va_S (fun q => B0 ≤ q) s.heap H locs) (hH : U.heap = H) (hW : s.WarmedH U.vm) (h : am_St B0 ka vF s s.heap) : am_St B0 ka vF U U.heap := by
  rw [hH]
  exact am_St_to hW.alike (fun _ _ _ _ q => vk_R.warm hW q) (fun w hw q => am_Nw_warm (am_nest_k w hw) hW q) hS.2.1 h
theorem am_St_call {B0 : Nat} {ka : Nat → Nat} {vF : Value} {U : State} {g : JFrame} {mk : MethodId} {a : Array Value} (h : am_St B0 ka vF U U.heap) : am_St B0 ka vF (U.calling g mk a) (U.calling g mk a).heap :=
  am_St_to (u := U) (U := U.calling g mk a) (H1 := U.heap) (Vm.Alike.refl U.vm) (fun _ _ _ _ q => vk_R.same (u := U) (U := U.calling g mk a) rfl q) (fun w hw q => am_Nw_same (s := U) (U := U.calling g mk a) (am_nest_k w hw) rfl q) (fun _ _ _ => rfl) h
theorem am_callX {p : Program} {l : Launch} {e : Env} {R : Room} {s : State} {m : MethodId} {args : Array Value} {below : List Frame} {meth : Method} {c : Code} {H : Heap} {locs : List Loc} {cells slots mc ms pc : Nat} {ls : Array Slot} {st0 rest : List Value} {Q : State → Prop} {Qa : State → Outcome → State → Prop} {B0 : Nat} (hr : va_Run p l e R s m args below meth c H locs cells slots mc ms (F0 m pc ls st0) rest Qa (fun q => B0 ≤ q))
    (kk : ∀ (v : Option Value) (st₀ t : State) (L : List Loc), st₀.heap = H → Qa st₀ (.returned v) t → s.vm.Alike t.vm → (∀ q ∈ L, B0 ≤ q.base) → W p l e R s m args below meth c t.heap (locs ++ L) (cells + mc) (slots + ms) Q (F0 m (pc + 3) ls (v.toList ++ rest))) : W p l e R s m args below meth c H locs cells slots Q (F0 m pc ls st0) := by
  intro T hT X
  obtain ⟨v, st₀, t, T', L, h0, X', hL, e1, e2, hq, st⟩ := hr T hT X
  obtain ⟨t2, a1, b1⟩ := kk v st₀ t L h0 hq (by rw [← e2]; exact X'.warmed.alike) hL T' e1 X'
  exact ⟨t2, st t2 a1, b1⟩
def am_wy (y : Nat) : List Cond := Cond.code (am_nm y) (am_by y) (am_ml y) (am_rt y) :: am_wa
def am_rv (ka : Nat → Nat) (vF : Value) (ad : Nat → Nat) (rt : Nat) (z : Int) : Option Value := bif Nat.beq rt 9 then none else some (am_cv ka vF ad (rt, z))
def am_Pc (D : va_G) (B0 : Nat) (ka : Nat → Nat) (vF : Value) (md : Bool) (as : List am_V) (σ : am_M) (n : Nat) (ad cA : Nat → Nat) (tys : List (ClassId × FieldType)) : Array Value → State → Prop := va_Pc (as.map (am_cv ka vF ad)) (fun U => am_St B0 ka vF U U.heap ∧ B0 ≤ U.heap.size ∧ am_Wd D B0 ka vF md n σ ad cA tys U U.heap)
def am_Qc (D : va_G) (B0 : Nat) (ka : Nat → Nat) (vF : Value) (md : Bool) (rt n : Nat) (ad : Nat → Nat) (z : Int) (σ' : am_M) (n' : Nat) : Array Value → State → Outcome → State → Prop := fun _ st oc t =>
  (∃ (ad' cA' : Nat → Nat) (tys' : List (ClassId × FieldType)), oc = .returned (am_rv ka vF ad' rt z) ∧ (∀ i, i < n → ad' i = ad i) ∧ am_Wd D B0 ka vF md n' σ' ad' cA' tys' t t.heap ∧ (rt ≠ 9 → am_ok n' (rt, z))) ∧ va_F (fun q => B0 ≤ q) st t
/-- a method's contract, out of one run of it -/
def am_MO (l : Launch) (D : va_G) (B0 : Nat) (ka : Nat → Nat) (vF : Value) (md : Bool) (d y : Nat) (as : List am_V) (σ : am_M) (n : Nat) (q : am_R) : Prop := n ≤ q.2.2 ∧ ∀ (ad cA : Nat → Nat) (tys : List (ClassId × FieldType)), (∀ v ∈ as, am_ok n v) →
  Met l (am_nm y) (am_wy y) ({ frames := d + 1, cells := q.2.2 - n, slots := am_sz q.2.2 - am_sz n, locals := 100 * d + 100 }) (am_Pc D B0 ka vF md as σ n ad cA tys) (am_Qc D B0 ka vF md (am_rkt (am_rk y)) n ad q.1 q.2.1 q.2.2) (q.2.2 - n) (am_sz q.2.2 - am_sz n) (fun q => B0 ≤ q)
theorem am_Pc_blind {D : va_G} {B0 : Nat} {ka : Nat → Nat} {vF : Value} {md : Bool} {as : List am_V} {σ : am_M} {n : Nat} {ad cA : Nat → Nat} {tys : List (ClassId × FieldType)} : FrameBlind (am_Pc D B0 ka vF md as σ n ad cA tys) := by
  intro a U g mk h
  obtain ⟨h1, h2, h3, w1, w2, w3, w4⟩ := h
  exact ⟨h1, am_St_call h2, h3, w1, w2, va_K.moved (u := U) (U := U.calling g mk a) (Vm.Alike.refl U.vm) w3, w4⟩
