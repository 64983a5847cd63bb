def am_zp (rk : Nat) (z : Int) : Prop := (rk = 2 → z = 0 ∨ z = 1) ∧ (rk = 3 → 0 ≤ z ∧ z < 65536) ∧ (rk = 4 → -128 ≤ z ∧ z < 128)
def am_int (rk : Nat) : Prop := rk = 0 ∨ rk = 2 ∨ rk = 3 ∨ rk = 4
/-- what a method's end has to give -/
def am_HR (p : Program) (l : Launch) (e : Env) (R : Room) (s : State) (m : MethodId) (args : Array Value) (below : List Frame) (meth : Method) (c : Code) (Q : State → Prop) (D : va_G) (B0 : Nat) (ka : Nat → Nat) (vF : Value) (md : Bool) (y n0 c0 s0 : Nat) (ad0 : Nat → Nat) (r : am_R) : Prop :=
  ∀ (H : Heap) (locs : List Loc) (ls : Array Slot) (ad cA : Nat → Nat) (tys : List (ClassId × FieldType)) (pc : Nat), va_S (fun q => B0 ≤ q) s.heap H locs → am_Wd D B0 ka vF md r.2.2 r.2.1 ad cA tys s H → (∀ i, i < n0 → ad i = ad0 i) → n0 ≤ r.2.2 →
    (am_rkt (am_rk y) ≠ 9 → am_ok r.2.2 (am_rkt (am_rk y), r.1)) → am_zp (am_rk y) r.1 → (am_int (am_rk y) → decode (am_by y) pc = .ok (.ireturn, 1)) → (am_rk y = 1 → decode (am_by y) pc = .ok (.lreturn, 1)) → (am_rk y = 16 → decode (am_by y) pc = .ok (.areturn, 1)) → (am_rk y = 9 → decode (am_by y) pc = .ok (.return_, 1)) → (am_int (am_rk y) ∨ am_rk y = 1 ∨ am_rk y = 16 ∨ am_rk y = 9) →
    W p l e R s m args below meth c H locs (c0 + (r.2.2 - n0)) (s0 + (am_sz r.2.2 - am_sz n0)) Q (F0 m pc ls (am_rv ka vF ad (am_rkt (am_rk y)) r.1).toList)
theorem am_ret_some {st : List am_V} {x : Option am_R} {r : am_R} (h : am_ret st x = some r) : st = [] ∧ x = some r := by
  cases st with
  | nil => exact ⟨rfl, h⟩
  | cons v st => cases h
theorem am_zr_some {rk : Nat} {z : Int} {x : Option am_R} {r : am_R} (h : am_zr rk z x = some r) : am_int rk ∧ am_zp rk z ∧ x = some r := by
  unfold am_zr at h
  cases h0 : Nat.beq rk 0 with
  | true =>
    rw [h0] at h
    obtain rfl := am_beq_t h0
    exact ⟨Or.inl rfl, ⟨fun q => by omega, fun q => by omega, fun q => by omega⟩, h⟩
  | false =>
    rw [h0] at h
    cases h2 : Nat.beq rk 2 with
    | true =>
      rw [h2] at h
      obtain rfl := am_beq_t h2
      obtain ⟨a, b⟩ := am_if_some h
      exact ⟨Or.inr (Or.inl rfl), ⟨fun _ => a, fun q => by omega, fun q => by omega⟩, b⟩
    | false =>
      rw [h2] at h
      cases h3 : Nat.beq rk 3 with
      | true =>
        rw [h3] at h
        obtain rfl := am_beq_t h3
        obtain ⟨a, b⟩ := am_if_some h
        exact ⟨Or.inr (Or.inr (Or.inl rfl)), ⟨fun q => by omega, fun _ => a, fun q => by omega⟩, b⟩
      | false =>
        rw [h3] at h
        cases h4 : Nat.beq rk 4 with
        | true =>
          rw [h4] at h
          obtain rfl := am_beq_t h4
          obtain ⟨a, b⟩ := am_if_some h
          exact ⟨Or.inr (Or.inr (Or.inr rfl)), ⟨fun q => by omega, fun q => by omega, fun _ => a⟩, b⟩
        | false => rw [h4] at h; cases h
theorem am_rkt_int {rk : Nat} (h : am_int rk) : am_rkt rk = 0 := by
  rcases h with rfl | rfl | rfl | rfl <;> rfl
theorem go_ireturn {p : Program} {l : Launch} {e : Env} {R : Room} {s : State} {m : MethodId} {args : Array Value} {below : List Frame} {meth : Method} {c : Code} {Q : State → Prop} {D : va_G} {B0 : Nat} {ka : Nat → Nat} {vF : Value} {md : Bool} {y n0 c0 s0 : Nat} {ad0 : Nat → Nat} {nf : Nat} {G : am_S → Prop} (hG : G = am_Go p l e R s m args below meth c Q D B0 ka vF md y n0 c0 s0 ad0 nf) (C : am_Cx p s m args c y B0 ka vF) {r : am_R} {pc nx : Nat} {L st : List am_V} {σ : am_M} {n : Nat} (hHR : am_HR p l e R s m args below meth c Q D B0 ka vF md y n0 c0 s0 ad0 r) (hnf : nf = r.2.2) (hd : decode (am_by y) pc = .ok (.ireturn, 1)) (h : (am_i1 st fun z st => am_ret st (am_zr (am_rk y) z (some (z, σ, n)))) = some r) : G (pc, L, st, σ, n) := by
  obtain ⟨z, st', est, h1⟩ := am_i1_some h
  obtain ⟨hs, h2⟩ := am_ret_some h1
  obtain ⟨hi, hz, h3⟩ := am_zr_some h2
  have hr : (z, σ, n) = r := Option.some.inj h3
  subst hs
  subst hG
  have e1 : r.1 = z := by rw [← hr]
  have e2 : r.2.1 = σ := by rw [← hr]
  have e3 : r.2.2 = n := by rw [← hr]
  refine ⟨by show n ≤ nf; omega, fun H locs cells slots ls ad cA tys P => ?_⟩
  have P : am_Pt s D B0 ka vF md y n0 c0 s0 ad0 ls L st σ n H locs cells slots ad cA tys := P
  obtain ⟨q1, hWd, q3, q4, q5, q6, g1, g2, g3, g4⟩ := P
  have K := hHR H locs ls ad cA tys pc q1 (by rw [e2, e3]; exact hWd) g2 (by omega) (fun _ => by rw [am_rkt_int hi, e1, e3]; exact q6 (0, z) (by rw [est]; simp)) (by rw [e1]; exact hz) (fun _ => hd) (fun q => by rcases hi with w | w | w | w <;> omega) (fun q => by rcases hi with w | w | w | w <;> omega) (fun q => by rcases hi with w | w | w | w <;> omega) (Or.inl hi)
  rw [e3, ← g3, ← g4] at K
  rw [am_rkt_int hi, e1] at K
  rw [est]
  exact K
theorem go_lreturn {p : Program} {l : Launch} {e : Env} {R : Room} {s : State} {m : MethodId} {args : Array Value} {below : List Frame} {meth : Method} {c : Code} {Q : State → Prop} {D : va_G} {B0 : Nat} {ka : Nat → Nat} {vF : Value} {md : Bool} {y n0 c0 s0 : Nat} {ad0 : Nat → Nat} {nf : Nat} {G : am_S → Prop} (hG : G = am_Go p l e R s m args below meth c Q D B0 ka vF md y n0 c0 s0 ad0 nf) (C : am_Cx p s m args c y B0 ka vF) {r : am_R} {pc nx : Nat} {L st : List am_V} {σ : am_M} {n : Nat} (hHR : am_HR p l e R s m args below meth c Q D B0 ka vF md y n0 c0 s0 ad0 r) (hnf : nf = r.2.2) (hd : decode (am_by y) pc = .ok (.lreturn, 1)) (h : (am_l1 st fun z st => am_ret st (bif Nat.beq (am_rk y) 1 then some (z, σ, n) else none)) = some r) : G (pc, L, st, σ, n) := by
  obtain ⟨z, st', est, h1⟩ := am_l1_some h
  obtain ⟨hs, h2⟩ := am_ret_some h1
  obtain ⟨hb, h3⟩ := am_bif_some h2
  have hi := am_beq_t hb
  have hr : (z, σ, n) = r := Option.some.inj h3
  have hk : am_rkt (am_rk y) = 1 := by rw [hi]; rfl
  subst hs
  subst hG
  have e1 : r.1 = z := by rw [← hr]
  have e2 : r.2.1 = σ := by rw [← hr]
  have e3 : r.2.2 = n := by rw [← hr]
  refine ⟨by show n ≤ nf; omega, fun H locs cells slots ls ad cA tys P => ?_⟩
  have P : am_Pt s D B0 ka vF md y n0 c0 s0 ad0 ls L st σ n H locs cells slots ad cA tys := P
  obtain ⟨q1, hWd, q3, q4, q5, q6, g1, g2, g3, g4⟩ := P
  have K := hHR H locs ls ad cA tys pc q1 (by rw [e2, e3]; exact hWd) g2 (by omega) (fun _ => by rw [hk, e1, e3]; exact q6 (1, z) (by rw [est]; simp)) ⟨fun q => by omega, fun q => by omega, fun q => by omega⟩ (fun q => by rcases q with w | w | w | w <;> omega) (fun _ => hd) (fun q => by omega) (fun q => by omega) (Or.inr (Or.inl hi))
  rw [e3, ← g3, ← g4] at K
  rw [hk, e1] at K
  rw [est]
  exact K
theorem go_areturn {p : Program} {l : Launch} {e : Env} {R : Room} {s : State} {m : MethodId} {args : Array Value} {below : List Frame} {meth : Method} {c : Code} {Q : State → Prop} {D : va_G} {B0 : Nat} {ka : Nat → Nat} {vF : Value} {md : Bool} {y n0 c0 s0 : Nat} {ad0 : Nat → Nat} {nf : Nat} {G : am_S → Prop} (hG : G = am_Go p l e R s m args below meth c Q D B0 ka vF md y n0 c0 s0 ad0 nf) (C : am_Cx p s m args c y B0 ka vF) {r : am_R} {pc nx : Nat} {L st : List am_V} {σ : am_M} {n : Nat} (hHR : am_HR p l e R s m args below meth c Q D B0 ka vF md y n0 c0 s0 ad0 r) (hnf : nf = r.2.2) (hd : decode (am_by y) pc = .ok (.areturn, 1)) (h : (am_v1 st fun t z st => am_ret st (bif Nat.beq t 16 && Nat.beq (am_rk y) 16 then some (z, σ, n) else none)) = some r) : G (pc, L, st, σ, n) := by
  obtain ⟨t, z, st', est, h1⟩ := am_v1_some h
  obtain ⟨hs, h2⟩ := am_ret_some h1
  obtain ⟨hb, h3⟩ := am_bif_some h2
  rw [Bool.and_eq_true] at hb
  have hi := am_beq_t hb.2
  obtain rfl := am_beq_t hb.1
  have hr : (z, σ, n) = r := Option.some.inj h3
  have hk : am_rkt (am_rk y) = 16 := by rw [hi]; rfl
  subst hs
  subst hG
  have e1 : r.1 = z := by rw [← hr]
  have e2 : r.2.1 = σ := by rw [← hr]
  have e3 : r.2.2 = n := by rw [← hr]
  refine ⟨by show n ≤ nf; omega, fun H locs cells slots ls ad cA tys P => ?_⟩
  have P : am_Pt s D B0 ka vF md y n0 c0 s0 ad0 ls L st σ n H locs cells slots ad cA tys := P
  obtain ⟨q1, hWd, q3, q4, q5, q6, g1, g2, g3, g4⟩ := P
  have K := hHR H locs ls ad cA tys pc q1 (by rw [e2, e3]; exact hWd) g2 (by omega) (fun _ => by rw [hk, e1, e3]; exact q6 (16, z) (by rw [est]; simp)) ⟨fun q => by omega, fun q => by omega, fun q => by omega⟩ (fun q => by rcases q with w | w | w | w <;> omega) (fun q => by omega) (fun _ => hd) (fun q => by omega) (Or.inr (Or.inr (Or.inl hi)))
  rw [e3, ← g3, ← g4] at K
  rw [hk, e1] at K
  rw [est]
  exact K
theorem go_return {p : Program} {l : Launch} {e : Env} {R : Room} {s : State} {m : MethodId} {args : Array Value} {below : List Frame} {meth : Method} {c : Code} {Q : State → Prop} {D : va_G} {B0 : Nat} {ka : Nat → Nat} {vF : Value} {md : Bool} {y n0 c0 s0 : Nat} {ad0 : Nat → Nat} {nf : Nat} {G : am_S → Prop} (hG : G = am_Go p l e R s m args below meth c Q D B0 ka vF md y n0 c0 s0 ad0 nf) (C : am_Cx p s m args c y B0 ka vF) {r : am_R} {pc nx : Nat} {L st : List am_V} {σ : am_M} {n : Nat} (hHR : am_HR p l e R s m args below meth c Q D B0 ka vF md y n0 c0 s0 ad0 r) (hnf : nf = r.2.2) (hd : decode (am_by y) pc = .ok (.return_, 1)) (h : (am_ret st (bif Nat.beq (am_rk y) 9 then some (0, σ, n) else none)) = some r) : G (pc, L, st, σ, n) := by
  obtain ⟨est, h2⟩ := am_ret_some h
  obtain ⟨hb, h3⟩ := am_bif_some h2
  have hi := am_beq_t hb
  have hr : ((0 : Int), σ, n) = r := Option.some.inj h3
  have hk : am_rkt (am_rk y) = 9 := by rw [hi]; rfl
  subst hG
  have e1 : r.1 = 0 := by rw [← hr]
  have e2 : r.2.1 = σ := by rw [← hr]
  have e3 : r.2.2 = n := by rw [← hr]
  refine ⟨by show n ≤ nf; omega, fun H locs cells slots ls ad cA tys P => ?_⟩
  have P : am_Pt s D B0 ka vF md y n0 c0 s0 ad0 ls L st σ n H locs cells slots ad cA tys := P
  obtain ⟨q1, hWd, q3, q4, q5, q6, g1, g2, g3, g4⟩ := P
  have K := hHR H locs ls ad cA tys pc q1 (by rw [e2, e3]; exact hWd) g2 (by omega) (fun q => absurd hk q) ⟨fun q => by omega, fun q => by omega, fun q => by omega⟩ (fun q => by rcases q with w | w | w | w <;> omega) (fun q => by omega) (fun q => by omega) (fun _ => hd) (Or.inr (Or.inr (Or.inr hi)))
  rw [e3, ← g3, ← g4] at K
  rw [hk, e1] at K
  rw [est]
  exact K
