/-! THE LAW'S BODY: its steps -/
def la_r : am_R := (0, am_id10, 0)
noncomputable def la_k (G : am_S → Prop) (S : am_S) : Option am_R := @ite _ (G S) (Classical.propDecidable _) (some la_r) none
theorem la_kt {G : am_S → Prop} (S : am_S) (h : la_k G S = some la_r) : G S := by
  unfold la_k at h
  split at h
  · assumption
  · cases h
theorem la_kp {G : am_S → Prop} {S : am_S} (h : G S) : la_k G S = some la_r := if_pos h
theorem la_eok {pc nx : Nat} {i : Instr} {x : Nat × Nat × Nat × Nat} {w : Option (List Bool)} (h : am_code 277 pc = some (i, nx, x, w)) : am_eok 277 pc (i, nx, x, w) = true := by
  have hek := am_ek_ok 277 pc
  unfold am_ek at hek
  rw [h] at hek
  exact hek
theorem la_dec {pc nx : Nat} {i : Instr} {x : Nat × Nat × Nat × Nat} {w : Option (List Bool)} (h : am_code 277 pc = some (i, nx, x, w)) (hw : am_isw i = false) : decode (am_by 277) pc = .ok (i, am_il i) ∧ nx = pc + am_il i ∧ am_xok 277 pc i x = true := by
  have hek := la_eok h
  unfold am_eok at hek
  rw [Bool.and_eq_true] at hek
  obtain ⟨hdec, hx⟩ := hek
  cases hd : decode (am_by 277) pc with
  | error x => rw [hd] at hdec; cases hdec
  | ok il =>
    obtain ⟨i', len⟩ := il
    rw [hd] at hdec
    have hdec : (decide (i' = i) && Nat.beq nx (pc + len) && (am_isw i' || Nat.beq len (am_il i'))) = true := hdec
    simp only [Bool.and_eq_true] at hdec
    obtain ⟨⟨hi, hnx⟩, hsw⟩ := hdec
    have hi : i' = i := of_decide_eq_true hi
    subst hi
    rw [hw, Bool.false_or] at hsw
    have hl := am_beq_t hsw
    subst hl
    exact ⟨rfl, am_beq_t hnx, hx⟩
theorem r_iconst {ls : Array Slot} {p : Program} {l : Launch} {e : Env} {R : Room} {s : State} {m : MethodId} {args : Array Value} {below : List Frame} {meth : Method} {c : Code} {Q : State → Prop} {D : va_G} {B0 : Nat} {ka : Nat → Nat} {vF : Value} {md : Bool} {n0 c0 s0 : Nat} {ad0 : Nat → Nat} {nf : Nat} {G : am_S → Prop} (hG : G = la_Go ls p l e R s m args below meth c Q D B0 ka vF md 277 n0 c0 s0 ad0 nf) (C : am_Cx p s m args c 277 B0 ka vF) {pc nx : Nat} {L st : List am_V} {σ : am_M} {n : Nat} {z : Int} {x : Nat × Nat × Nat × Nat} {w : Option (List Bool)} (hc : am_code 277 pc = some (.iconst z, nx, x, w)) (hz : am_in 128 z = true) (g : G (nx, L, (0, z) :: st, σ, n)) : G (pc, L, st, σ, n) := by
  obtain ⟨h1, h2, -⟩ := la_dec hc rfl
  exact la_iconst hG C la_kt h1 h2 (by rw [hz]; exact la_kp g)
theorem r_bipush {ls : Array Slot} {p : Program} {l : Launch} {e : Env} {R : Room} {s : State} {m : MethodId} {args : Array Value} {below : List Frame} {meth : Method} {c : Code} {Q : State → Prop} {D : va_G} {B0 : Nat} {ka : Nat → Nat} {vF : Value} {md : Bool} {n0 c0 s0 : Nat} {ad0 : Nat → Nat} {nf : Nat} {G : am_S → Prop} (hG : G = la_Go ls p l e R s m args below meth c Q D B0 ka vF md 277 n0 c0 s0 ad0 nf) (C : am_Cx p s m args c 277 B0 ka vF) {pc nx : Nat} {L st : List am_V} {σ : am_M} {n : Nat} {z : Int} {x : Nat × Nat × Nat × Nat} {w : Option (List Bool)} (hc : am_code 277 pc = some (.bipush z, nx, x, w)) (hz : am_in 128 z = true) (g : G (nx, L, (0, z) :: st, σ, n)) : G (pc, L, st, σ, n) := by
  obtain ⟨h1, h2, -⟩ := la_dec hc rfl
  exact la_bipush hG C la_kt h1 h2 (by rw [hz]; exact la_kp g)
theorem r_iload {ls : Array Slot} {p : Program} {l : Launch} {e : Env} {R : Room} {s : State} {m : MethodId} {args : Array Value} {below : List Frame} {meth : Method} {c : Code} {Q : State → Prop} {D : va_G} {B0 : Nat} {ka : Nat → Nat} {vF : Value} {md : Bool} {n0 c0 s0 : Nat} {ad0 : Nat → Nat} {nf : Nat} {G : am_S → Prop} (hG : G = la_Go ls p l e R s m args below meth c Q D B0 ka vF md 277 n0 c0 s0 ad0 nf) (C : am_Cx p s m args c 277 B0 ka vF) {pc nx : Nat} {L st : List am_V} {σ : am_M} {n : Nat} {j : Fin 4} {z : Int} {x : Nat × Nat × Nat × Nat} {w : Option (List Bool)} (hc : am_code 277 pc = some (.iload_n j, nx, x, w)) (hl : ∀ f, am_ld L j.val f = f 0 z) (g : G (nx, L, (0, z) :: st, σ, n)) : G (pc, L, st, σ, n) := by
  obtain ⟨h1, h2, -⟩ := la_dec hc rfl
  exact la_iload_n hG C la_kt h1 h2 (by rw [hl]; exact la_kp g)
theorem r_aload {ls : Array Slot} {p : Program} {l : Launch} {e : Env} {R : Room} {s : State} {m : MethodId} {args : Array Value} {below : List Frame} {meth : Method} {c : Code} {Q : State → Prop} {D : va_G} {B0 : Nat} {ka : Nat → Nat} {vF : Value} {md : Bool} {n0 c0 s0 : Nat} {ad0 : Nat → Nat} {nf : Nat} {G : am_S → Prop} (hG : G = la_Go ls p l e R s m args below meth c Q D B0 ka vF md 277 n0 c0 s0 ad0 nf) (C : am_Cx p s m args c 277 B0 ka vF) {pc nx : Nat} {L st : List am_V} {σ : am_M} {n : Nat} {j : Fin 4} {t : Nat} {z : Int} {x : Nat × Nat × Nat × Nat} {w : Option (List Bool)} (hc : am_code 277 pc = some (.aload_n j, nx, x, w)) (hl : ∀ f, am_ld L j.val f = f t z) (ht : Nat.ble 10 t = true) (g : G (nx, L, (t, z) :: st, σ, n)) : G (pc, L, st, σ, n) := by
  obtain ⟨h1, h2, -⟩ := la_dec hc rfl
  exact la_aload_n hG C la_kt h1 h2 (by rw [hl, ht]; exact la_kp g)
theorem r_isub {ls : Array Slot} {p : Program} {l : Launch} {e : Env} {R : Room} {s : State} {m : MethodId} {args : Array Value} {below : List Frame} {meth : Method} {c : Code} {Q : State → Prop} {D : va_G} {B0 : Nat} {ka : Nat → Nat} {vF : Value} {md : Bool} {n0 c0 s0 : Nat} {ad0 : Nat → Nat} {nf : Nat} {G : am_S → Prop} (hG : G = la_Go ls p l e R s m args below meth c Q D B0 ka vF md 277 n0 c0 s0 ad0 nf) (C : am_Cx p s m args c 277 B0 ka vF) {pc nx : Nat} {L st : List am_V} {σ : am_M} {n : Nat} {u v : Int} {x : Nat × Nat × Nat × Nat} {w : Option (List Bool)} (hc : am_code 277 pc = some (.isub, nx, x, w)) (g : G (nx, L, (0, am_w (u - v)) :: st, σ, n)) : G (pc, L, (0, v) :: (0, u) :: st, σ, n) := by
  obtain ⟨h1, h2, -⟩ := la_dec hc rfl
  exact la_isub hG C la_kt h1 h2 (la_kp g)
theorem r_iand {ls : Array Slot} {p : Program} {l : Launch} {e : Env} {R : Room} {s : State} {m : MethodId} {args : Array Value} {below : List Frame} {meth : Method} {c : Code} {Q : State → Prop} {D : va_G} {B0 : Nat} {ka : Nat → Nat} {vF : Value} {md : Bool} {n0 c0 s0 : Nat} {ad0 : Nat → Nat} {nf : Nat} {G : am_S → Prop} (hG : G = la_Go ls p l e R s m args below meth c Q D B0 ka vF md 277 n0 c0 s0 ad0 nf) (C : am_Cx p s m args c 277 B0 ka vF) {pc nx : Nat} {L st : List am_V} {σ : am_M} {n : Nat} {u v : Int} {x : Nat × Nat × Nat × Nat} {w : Option (List Bool)} (hc : am_code 277 pc = some (.iand, nx, x, w)) (g : G (nx, L, (0, am_and u v) :: st, σ, n)) : G (pc, L, (0, v) :: (0, u) :: st, σ, n) := by
  obtain ⟨h1, h2, -⟩ := la_dec hc rfl
  exact la_iand hG C la_kt h1 h2 (la_kp g)
theorem r_i2l {ls : Array Slot} {p : Program} {l : Launch} {e : Env} {R : Room} {s : State} {m : MethodId} {args : Array Value} {below : List Frame} {meth : Method} {c : Code} {Q : State → Prop} {D : va_G} {B0 : Nat} {ka : Nat → Nat} {vF : Value} {md : Bool} {n0 c0 s0 : Nat} {ad0 : Nat → Nat} {nf : Nat} {G : am_S → Prop} (hG : G = la_Go ls p l e R s m args below meth c Q D B0 ka vF md 277 n0 c0 s0 ad0 nf) (C : am_Cx p s m args c 277 B0 ka vF) {pc nx : Nat} {L st : List am_V} {σ : am_M} {n : Nat} {u : Int} {x : Nat × Nat × Nat × Nat} {w : Option (List Bool)} (hc : am_code 277 pc = some (.i2l, nx, x, w)) (g : G (nx, L, (1, u) :: st, σ, n)) : G (pc, L, (0, u) :: st, σ, n) := by
  obtain ⟨h1, h2, -⟩ := la_dec hc rfl
  exact la_i2l hG C la_kt h1 h2 (la_kp g)
theorem r_lshl {ls : Array Slot} {p : Program} {l : Launch} {e : Env} {R : Room} {s : State} {m : MethodId} {args : Array Value} {below : List Frame} {meth : Method} {c : Code} {Q : State → Prop} {D : va_G} {B0 : Nat} {ka : Nat → Nat} {vF : Value} {md : Bool} {n0 c0 s0 : Nat} {ad0 : Nat → Nat} {nf : Nat} {G : am_S → Prop} (hG : G = la_Go ls p l e R s m args below meth c Q D B0 ka vF md 277 n0 c0 s0 ad0 nf) (C : am_Cx p s m args c 277 B0 ka vF) {pc nx : Nat} {L st : List am_V} {σ : am_M} {n : Nat} {u v : Int} {x : Nat × Nat × Nat × Nat} {w : Option (List Bool)} (hc : am_code 277 pc = some (.lshl, nx, x, w)) (g : G (nx, L, (1, am_lshl u v) :: st, σ, n)) : G (pc, L, (0, v) :: (1, u) :: st, σ, n) := by
  obtain ⟨h1, h2, -⟩ := la_dec hc rfl
  exact la_lshl hG C la_kt h1 h2 (la_kp g)
theorem r_land {ls : Array Slot} {p : Program} {l : Launch} {e : Env} {R : Room} {s : State} {m : MethodId} {args : Array Value} {below : List Frame} {meth : Method} {c : Code} {Q : State → Prop} {D : va_G} {B0 : Nat} {ka : Nat → Nat} {vF : Value} {md : Bool} {n0 c0 s0 : Nat} {ad0 : Nat → Nat} {nf : Nat} {G : am_S → Prop} (hG : G = la_Go ls p l e R s m args below meth c Q D B0 ka vF md 277 n0 c0 s0 ad0 nf) (C : am_Cx p s m args c 277 B0 ka vF) {pc nx : Nat} {L st : List am_V} {σ : am_M} {n : Nat} {u v : Int} {x : Nat × Nat × Nat × Nat} {w : Option (List Bool)} (hc : am_code 277 pc = some (.land, nx, x, w)) (g : G (nx, L, (1, am_land u v) :: st, σ, n)) : G (pc, L, (1, v) :: (1, u) :: st, σ, n) := by
  obtain ⟨h1, h2, -⟩ := la_dec hc rfl
  exact la_land hG C la_kt h1 h2 (la_kp g)
theorem r_lor {ls : Array Slot} {p : Program} {l : Launch} {e : Env} {R : Room} {s : State} {m : MethodId} {args : Array Value} {below : List Frame} {meth : Method} {c : Code} {Q : State → Prop} {D : va_G} {B0 : Nat} {ka : Nat → Nat} {vF : Value} {md : Bool} {n0 c0 s0 : Nat} {ad0 : Nat → Nat} {nf : Nat} {G : am_S → Prop} (hG : G = la_Go ls p l e R s m args below meth c Q D B0 ka vF md 277 n0 c0 s0 ad0 nf) (C : am_Cx p s m args c 277 B0 ka vF) {pc nx : Nat} {L st : List am_V} {σ : am_M} {n : Nat} {u v : Int} {x : Nat × Nat × Nat × Nat} {w : Option (List Bool)} (hc : am_code 277 pc = some (.lor, nx, x, w)) (g : G (nx, L, (1, am_lor u v) :: st, σ, n)) : G (pc, L, (1, v) :: (1, u) :: st, σ, n) := by
  obtain ⟨h1, h2, -⟩ := la_dec hc rfl
  exact la_lor hG C la_kt h1 h2 (la_kp g)
theorem r_lcmp {ls : Array Slot} {p : Program} {l : Launch} {e : Env} {R : Room} {s : State} {m : MethodId} {args : Array Value} {below : List Frame} {meth : Method} {c : Code} {Q : State → Prop} {D : va_G} {B0 : Nat} {ka : Nat → Nat} {vF : Value} {md : Bool} {n0 c0 s0 : Nat} {ad0 : Nat → Nat} {nf : Nat} {G : am_S → Prop} (hG : G = la_Go ls p l e R s m args below meth c Q D B0 ka vF md 277 n0 c0 s0 ad0 nf) (C : am_Cx p s m args c 277 B0 ka vF) {pc nx : Nat} {L st : List am_V} {σ : am_M} {n : Nat} {u v : Int} {x : Nat × Nat × Nat × Nat} {w : Option (List Bool)} (hc : am_code 277 pc = some (.lcmp, nx, x, w)) (g : G (nx, L, (0, am_cmp u v) :: st, σ, n)) : G (pc, L, (1, v) :: (1, u) :: st, σ, n) := by
  obtain ⟨h1, h2, -⟩ := la_dec hc rfl
  exact la_lcmp hG C la_kt h1 h2 (la_kp g)
theorem r_ldc2 {ls : Array Slot} {p : Program} {l : Launch} {e : Env} {R : Room} {s : State} {m : MethodId} {args : Array Value} {below : List Frame} {meth : Method} {c : Code} {Q : State → Prop} {D : va_G} {B0 : Nat} {ka : Nat → Nat} {vF : Value} {md : Bool} {n0 c0 s0 : Nat} {ad0 : Nat → Nat} {nf : Nat} {G : am_S → Prop} (hG : G = la_Go ls p l e R s m args below meth c Q D B0 ka vF md 277 n0 c0 s0 ad0 nf) (C : am_Cx p s m args c 277 B0 ka vF) {pc nx : Nat} {L st : List am_V} {σ : am_M} {n : Nat} {j : Nat} {x : Nat × Nat × Nat × Nat} {w : Option (List Bool)} (hc : am_code 277 pc = some (.ldc2_w j, nx, x, w)) (hx0 : x = (1, 4294967295, 0, 0)) (g : G (nx, L, (1, 4294967295) :: st, σ, n)) : G (pc, L, st, σ, n) := by
  obtain ⟨h1, h2, h3⟩ := la_dec hc rfl
  subst hx0
  exact la_ldc2 hG C la_kt h1 h2 h3 (la_kp g)
theorem r_goto {ls : Array Slot} {p : Program} {l : Launch} {e : Env} {R : Room} {s : State} {m : MethodId} {args : Array Value} {below : List Frame} {meth : Method} {c : Code} {Q : State → Prop} {D : va_G} {B0 : Nat} {ka : Nat → Nat} {vF : Value} {md : Bool} {n0 c0 s0 : Nat} {ad0 : Nat → Nat} {nf : Nat} {G : am_S → Prop} (hG : G = la_Go ls p l e R s m args below meth c Q D B0 ka vF md 277 n0 c0 s0 ad0 nf) (C : am_Cx p s m args c 277 B0 ka vF) {pc nx : Nat} {L st : List am_V} {σ : am_M} {n : Nat} {q : Int} {x : Nat × Nat × Nat × Nat} {w : Option (List Bool)} (hc : am_code 277 pc = some (.goto q, nx, x, w)) (g : G (x.1, L, st, σ, n)) : G (pc, L, st, σ, n) := by
  obtain ⟨h1, h2, h3⟩ := la_dec hc rfl
  exact la_goto (nx := nx) hG C la_kt h1 (of_decide_eq_true h3) (la_kp g)
theorem r_eq {ls : Array Slot} {p : Program} {l : Launch} {e : Env} {R : Room} {s : State} {m : MethodId} {args : Array Value} {below : List Frame} {meth : Method} {c : Code} {Q : State → Prop} {D : va_G} {B0 : Nat} {ka : Nat → Nat} {vF : Value} {md : Bool} {n0 c0 s0 : Nat} {ad0 : Nat → Nat} {nf : Nat} {G : am_S → Prop} (hG : G = la_Go ls p l e R s m args below meth c Q D B0 ka vF md 277 n0 c0 s0 ad0 nf) (C : am_Cx p s m args c 277 B0 ka vF) {pc nx : Nat} {L st : List am_V} {σ : am_M} {n : Nat} {q : Int} {u v : Int} {x : Nat × Nat × Nat × Nat} {w : Option (List Bool)} (hc : am_code 277 pc = some (.if_icmp .eq q, nx, x, w)) (he : u = v) (g : G (x.1, L, st, σ, n)) : G (pc, L, (0, v) :: (0, u) :: st, σ, n) := by
  obtain ⟨h1, h2, h3⟩ := la_dec hc rfl
  exact la_if_icmp_eq hG C la_kt h1 h2 (of_decide_eq_true h3) (show @ite _ (u = v) _ _ _ = _ from (if_pos he).trans (la_kp g))
theorem r_z {ls : Array Slot} {p : Program} {l : Launch} {e : Env} {R : Room} {s : State} {m : MethodId} {args : Array Value} {below : List Frame} {meth : Method} {c : Code} {Q : State → Prop} {D : va_G} {B0 : Nat} {ka : Nat → Nat} {vF : Value} {md : Bool} {n0 c0 s0 : Nat} {ad0 : Nat → Nat} {nf : Nat} {G : am_S → Prop} (hG : G = la_Go ls p l e R s m args below meth c Q D B0 ka vF md 277 n0 c0 s0 ad0 nf) (C : am_Cx p s m args c 277 B0 ka vF) {pc nx : Nat} {L st : List am_V} {σ : am_M} {n : Nat} {q : Int} {u : Int} {x : Nat × Nat × Nat × Nat} {w : Option (List Bool)} (hc : am_code 277 pc = some (.ifCond .eq q, nx, x, w)) (g : u = 0 → G (x.1, L, st, σ, n)) (g2 : u ≠ 0 → G (nx, L, st, σ, n)) : G (pc, L, (0, u) :: st, σ, n) := by
  obtain ⟨h1, h2, h3⟩ := la_dec hc rfl
  refine la_ifCond_eq hG C la_kt h1 h2 (of_decide_eq_true h3) (show @ite _ (u = 0) _ _ _ = _ from ?_)
  split
  · exact la_kp (g (by assumption))
  · exact la_kp (g2 (by assumption))
theorem r_gt {ls : Array Slot} {p : Program} {l : Launch} {e : Env} {R : Room} {s : State} {m : MethodId} {args : Array Value} {below : List Frame} {meth : Method} {c : Code} {Q : State → Prop} {D : va_G} {B0 : Nat} {ka : Nat → Nat} {vF : Value} {md : Bool} {n0 c0 s0 : Nat} {ad0 : Nat → Nat} {nf : Nat} {G : am_S → Prop} (hG : G = la_Go ls p l e R s m args below meth c Q D B0 ka vF md 277 n0 c0 s0 ad0 nf) (C : am_Cx p s m args c 277 B0 ka vF) {pc nx : Nat} {L st : List am_V} {σ : am_M} {n : Nat} {q : Int} {u v : Int} {x : Nat × Nat × Nat × Nat} {w : Option (List Bool)} (hc : am_code 277 pc = some (.if_icmp .gt q, nx, x, w)) (g : v < u → G (x.1, L, st, σ, n)) (g2 : ¬ v < u → G (nx, L, st, σ, n)) : G (pc, L, (0, v) :: (0, u) :: st, σ, n) := by
  obtain ⟨h1, h2, h3⟩ := la_dec hc rfl
  refine la_if_icmp_gt hG C la_kt h1 h2 (of_decide_eq_true h3) (show @ite _ (v < u) _ _ _ = _ from ?_)
  split
  · exact la_kp (g (by assumption))
  · exact la_kp (g2 (by assumption))
theorem r_call {ls : Array Slot} {p : Program} {l : Launch} {e : Env} {R : Room} {s : State} {m : MethodId} {args : Array Value} {below : List Frame} {meth : Method} {c : Code} {Q : State → Prop} {D : va_G} {B0 : Nat} {ka : Nat → Nat} {vF : Value} {md : Bool} {n0 c0 s0 : Nat} {ad0 : Nat → Nat} {nf : Nat} {G : am_S → Prop} (hG : G = la_Go ls p l e R s m args below meth c Q D B0 ka vF md 277 n0 c0 s0 ad0 nf) (C : am_Cx p s m args c 277 B0 ka vF) {pc nx : Nat} {L st : List am_V} {σ : am_M} {n : Nat} {d : Nat} (hR : am_Rm R d c0 s0 n0 nf) {j : Nat} {x : Nat × Nat × Nat × Nat} {w : Option (List Bool)} {as rest : List am_V} {z : Int} {σ1 : am_M} {n1 : Nat} (hc : am_code 277 pc = some (.invokevirtual j, nx, x, w)) (hdo : ∀ kk : List am_V → am_M → Nat → Option am_R, am_do (am_cal md d) x.1 x.2.1 x.2.2.2 (fun t => Nat.beq t x.2.2.1) st kk σ n = (am_cal md d x.1 as σ n).bind fun q => kk ((x.2.2.2, q.1) :: rest) q.2.1 q.2.2) (h : am_cal md d x.1 as σ n = some (z, σ1, n1)) (g : G (nx, L, (x.2.2.2, z) :: rest, σ1, n1)) : G (pc, L, st, σ, n) := by
  obtain ⟨h1, h2, h3⟩ := la_dec hc rfl
  have h3 : (!Nat.beq x.2.1 99 && (Nat.beq x.2.1 99 || (am_okc (am_own 277) j x.1 0 && Nat.blt x.1 278 && Nat.beq (am_npar x.1 + 1) x.2.1 && Nat.beq (am_rkt (am_rk x.1)) x.2.2.2 && ((Nat.blt (am_own x.1) 11 && Nat.beq x.2.2.1 (100 + am_own x.1)) || (Nat.beq x.2.2.1 16 && Nat.beq (am_own x.1) 14))))) = true := h3
  rw [Bool.and_eq_true] at h3
  refine la_invokevirtual hG C la_kt (d := d) (call := am_cal md d) (fun y' hy' as' σ' n' q' hq' => ?_) hR h1 h2 (am_276v (am_y_own 277 (by decide)).1 h3.2) (am_n99 h3.1) ?_
  · cases d with
    | zero => cases hq'
    | succ d => exact ⟨d, rfl, am_run_ok hy' hq'⟩
  · rw [hdo, h]
    exact la_kp g
