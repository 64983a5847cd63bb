theorem am_after {p : Program} {l : Launch} {e : Env} {R : Room} {s : State} {m : MethodId} {args : Array Value} {below : List Frame} {meth : Method} {c : Code} {Q : State → Prop} {D : va_G} {B0 : Nat} {ka : Nat → Nat} {vF : Value} {md : Bool} {y n0 c0 s0 : Nat} {ad0 : Nat → Nat} {nf : Nat} {pc : Nat} {L us rest : List am_V} {σ : am_M} {n : Nat} {q : am_R} {rt : Nat} {a : Array Value} {st0 : List Value}
    (hnq : n ≤ q.2.2) (hgo : am_Go p l e R s m args below meth c Q D B0 ka vF md y n0 c0 s0 ad0 nf (pc + 3, L, am_bk rt q.1 rest, q.2.1, q.2.2))
    {H : Heap} {locs : List Loc} {cells slots : Nat} {ls : Array Slot} {ad cA : Nat → Nat} {tys : List (ClassId × FieldType)} (P : am_Pt s D B0 ka vF md y n0 c0 s0 ad0 ls L (us ++ rest) σ n H locs cells slots ad cA tys)
    (hr : va_Run p l e R s m args below meth c H locs cells slots (q.2.2 - n) (am_sz q.2.2 - am_sz n) (F0 m pc ls st0) (rest.map (am_cv ka vF ad)) (am_Qc D B0 ka vF md rt n ad q.1 q.2.1 q.2.2 a) (fun q => B0 ≤ q)) :
    W p l e R s m args below meth c H locs cells slots Q (F0 m pc ls st0) := by
  refine am_callX hr (fun v st₀ t Lc h0 hQ hvm hL => ?_)
  obtain ⟨⟨ad', cA', tys', hv, hext, ⟨w1, w2, w3, w4⟩, hok⟩, hF1, hF2⟩ := hQ
  obtain ⟨q1, hW, q3, q4, q5, q6, g1, g2, g3, g4⟩ := P
  have hv' : v = am_rv ka vF ad' rt q.1 := by injection hv
  subst hv'
  rw [h0] at hF1 hF2
  have z1 := am_sz_mono hnq
  have z2 := am_sz_mono g1
  have hrest : rest.map (am_cv ka vF ad) = rest.map (am_cv ka vF ad') := List.map_congr_left fun v hv => (am_cv_ext hext (q6 v (List.mem_append_right _ hv))).symm
  have hstk : (am_rv ka vF ad' rt q.1).toList ++ rest.map (am_cv ka vF ad) = (am_bk rt q.1 rest).map (am_cv ka vF ad') := by
    rw [hrest]
    unfold am_rv am_bk
    cases h9 : Nat.beq rt 9 <;> rfl
  rw [hstk]
  refine hgo.2 t.heap (locs ++ Lc) _ _ ls ad' cA' tys' ⟨⟨Nat.le_trans q1.1 hF1, fun i h1 h2 => (hF2 i (Nat.lt_of_lt_of_le h1 q1.1) h2).trans (q1.2.1 i h1 h2), fun x hx => ?_⟩, ⟨w1, w2, va_K.moved hvm.symm w3, w4⟩, am_has_sub q3 (fun v hv => ?_), q4, fun i v hv h9 => am_ok_up hnq (q5 i v hv h9), fun v hv => ?_, Nat.le_trans g1 hnq, fun i hi => (hext i (by omega)).trans (g2 i hi), ?_, ?_⟩
  · rcases List.mem_append.mp hx with hx | hx
    · exact q1.2.2 x hx
    · exact hL x hx
  · obtain ⟨i, w, hw, h9, e⟩ := (am_lv_mem L 0 v).mp hv
    refine (am_lv_mem L 0 v).mpr ⟨i, w, hw, h9, ?_⟩
    rw [e, am_cv_ext hext (q5 i w hw h9)]
  · have hv2 : v ∈ am_bk rt q.1 rest := hv
    unfold am_bk at hv2
    cases h9 : Nat.beq rt 9 with
    | true =>
      rw [h9] at hv2
      exact am_ok_up hnq (q6 v (List.mem_append_right _ hv2))
    | false =>
      rw [h9] at hv2
      rcases List.mem_cons.mp hv2 with e | hv3
      · rw [e]; exact hok (fun e => by rw [e] at h9; cases h9)
      · exact am_ok_up hnq (q6 v (List.mem_append_right _ hv3))
  · show cells + (q.2.2 - n) = c0 + (q.2.2 - n0); omega
  · show slots + (am_sz q.2.2 - am_sz n) = s0 + (am_sz q.2.2 - am_sz n0); omega
theorem am_pop_some {r : am_R} : ∀ {a : Nat} {as st : List am_V} {k : List am_V → List am_V → Option am_R}, am_pop a as st k = some r → ∃ us rest, st = us ++ rest ∧ us.length = a ∧ k (us.reverse ++ as) rest = some r := by
  intro a
  induction a with
  | zero => intro as st k h; exact ⟨[], st, rfl, rfl, h⟩
  | succ a ih =>
    intro as st k h
    cases st with
    | nil => cases h
    | cons v st =>
      obtain ⟨us, rest, h1, h2, h3⟩ := ih (as := v :: as) (st := st) h
      exact ⟨v :: us, rest, by rw [h1]; rfl, by rw [List.length_cons, h2], by rw [List.reverse_cons, List.append_assoc]; exact h3⟩
