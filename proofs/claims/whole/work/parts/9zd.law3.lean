/-! THE LAW'S BODY: the script and the switch -/
def la_L (i : Nat) : List am_V := [(9, 0), (109, 0), (110, 82), (0, (i : Int))]
def la_x (xs : Nat → Int32) (j : Nat) : Int := (xs j).toInt
theorem la_x_r (xs : Nat → Int32) (j : Nat) : -2147483648 ≤ la_x xs j ∧ la_x xs j < 2147483648 := am_i_r (xs j)
theorem la_cv_x {ka : Nat → Nat} {vF : Value} {ad : Nat → Nat} (xs : Nat → Int32) (j : Nat) : am_cv ka vF ad (0, la_x xs j) = .int (xs j) := by
  rw [am_cv_i]
  exact congrArg Value.int (Int32.ofInt_toInt (xs j))
theorem la_i_cl {j : Nat} (h : j < 2147483648) : (Int32.ofInt (j : Int)).toNatClampNeg = j := by
  have := am_i_cl (a := (j : Int)) ⟨by omega, by omega⟩ (by omega)
  rw [this]
  exact Int.toNat_natCast j
theorem la_add (i k : Nat) : Int32.ofInt (i : Int) + Int32.ofInt (k : Int) = Int32.ofInt ((i + k : Nat) : Int) := by
  rw [← Int32.ofInt_add]
  rfl
def la_argc (pc k : Nat) : Prop := am_code 277 pc = some (.aload_n 0, pc + 1, (0, 0, 0, 0), none) ∧ am_code 277 (pc + 1) = some (.iload_n 3, pc + 2, (0, 0, 0, 0), none) ∧ am_code 277 (pc + 2) = some (.iconst (k : Int), pc + 3, (0, 0, 0, 0), none) ∧ am_code 277 (pc + 3) = some (.iadd, pc + 4, (0, 0, 0, 0), none) ∧ am_code 277 (pc + 4) = some (.iaload, pc + 5, (0, 0, 0, 0), none)
theorem la_sw {a : Int} {dv : Option am_R} {r : am_R} : ∀ {l : List (Int × Option am_R)}, dv = some r → (∀ p ∈ l, p.2 = some r) → am_sw a dv l = some r := by
  intro l h0
  induction l with
  | nil => intro _; exact h0
  | cons p l ih =>
    intro h
    show (if a = p.1 then p.2 else am_sw a dv l) = some r
    split
    · exact h p List.mem_cons_self
    · exact ih fun q hq => h q (List.mem_cons_of_mem _ hq)
theorem la_tsw {pc : Nat} {f : Nat → Option am_R} {r : am_R} : ∀ {os : List Int} {lo : Int}, (∀ o ∈ os, am_jmp pc o f = some r) → ∀ p ∈ am_tsw pc f lo os, p.2 = some r := by
  intro os
  induction os with
  | nil => intro lo _ p hp; cases hp
  | cons o os ih =>
    intro lo h p hp
    have hp : p ∈ (lo, am_jmp pc o f) :: am_tsw pc f (lo + 1) os := hp
    rcases List.mem_cons.mp hp with e | hp
    · rw [e]; exact h o List.mem_cons_self
    · exact ih (fun q hq => h q (List.mem_cons_of_mem _ hq)) p hp
theorem r_len {ls : Array Slot} {p : Program} {l : Launch} {e : Env} {R : Room} {s : State} {m : MethodId} {args : Array Value} {below : List Frame} {meth : Method} {c : Code} {Q : State → Prop} {D : va_G} {B0 : Nat} {ka : Nat → Nat} {vF : Value} {md : Bool} {n0 c0 s0 : Nat} {ad0 : Nat → Nat} {nf : Nat} {G : am_S → Prop} (hG : G = la_Go ls p l e R s m args below meth c Q D B0 ka vF md 277 n0 c0 s0 ad0 nf) (C : am_Cx p s m args c 277 B0 ka vF) {b Ls i : Nat} {xs : Nat → Int32} (hX : va_X b Ls xs s s.heap) (hbl : b < s.heap.size) (hB : B0 = s.heap.size) (h0 : ls[0]? = some (.val (.ref b))) (hL : Ls ≤ 3072) {pc nx : Nat} {st : List am_V} {σ : am_M} {n : Nat} (hc : am_code 277 pc = some (.aload_n 0, pc + 1, (0, 0, 0, 0), none) ∧ am_code 277 (pc + 1) = some (.arraylength, pc + 2, (0, 0, 0, 0), none)) (hp : nx = pc + 2) (g : G (nx, la_L i, (0, (Ls : Int)) :: st, σ, n)) : G (pc, la_L i, st, σ, n) := by
  obtain ⟨c0, c1⟩ := hc
  obtain ⟨d0, -, -⟩ := la_dec c0 rfl
  obtain ⟨d1, -, -⟩ := la_dec c1 rfl
  subst hp
  subst hG
  refine ⟨g.1, fun H locs cells slots ad cA tys P => ?_⟩
  obtain ⟨p1, p2, p3, p4, p5, p6, p7⟩ := P
  have g2 := g.2 H locs cells slots ad cA tys ⟨p1, p2, p3, p4, p5, fun v hv => by
    rcases List.mem_cons.mp hv with e | hv
    · rw [e]; exact am_ok_0 ⟨by omega, by omega⟩
    · exact p6 v hv, p7⟩
  refine lv_aload_n C.1 C.2.1 d0 rfl h0 ?_
  exact va_slen C.1 C.2.1 hX hbl (by rw [hB]; exact Nat.not_le.mpr hbl) p1 d1 g2
theorem r_arg {ls : Array Slot} {p : Program} {l : Launch} {e : Env} {R : Room} {s : State} {m : MethodId} {args : Array Value} {below : List Frame} {meth : Method} {c : Code} {Q : State → Prop} {D : va_G} {B0 : Nat} {ka : Nat → Nat} {vF : Value} {md : Bool} {n0 c0 s0 : Nat} {ad0 : Nat → Nat} {nf : Nat} {G : am_S → Prop} (hG : G = la_Go ls p l e R s m args below meth c Q D B0 ka vF md 277 n0 c0 s0 ad0 nf) (C : am_Cx p s m args c 277 B0 ka vF) {b Ls i : Nat} {xs : Nat → Int32} (hX : va_X b Ls xs s s.heap) (hbl : b < s.heap.size) (hB : B0 = s.heap.size) (h0 : ls[0]? = some (.val (.ref b))) (hL : Ls ≤ 3072) (k : Nat) (hk : i + k < Ls) {pc nx : Nat} {st : List am_V} {σ : am_M} {n : Nat} (hc : la_argc pc k) (hp : nx = pc + 5) (g : G (nx, la_L i, (0, la_x xs (i + k)) :: st, σ, n)) : G (pc, la_L i, st, σ, n) := by
  obtain ⟨c0, c1, c2, c3, c4⟩ := hc
  obtain ⟨d0, -, -⟩ := la_dec c0 rfl
  obtain ⟨d1, -, -⟩ := la_dec c1 rfl
  obtain ⟨d2, -, -⟩ := la_dec c2 rfl
  obtain ⟨d3, -, -⟩ := la_dec c3 rfl
  obtain ⟨d4, -, -⟩ := la_dec c4 rfl
  subst hp
  subst hG
  refine ⟨g.1, fun H locs cells slots ad cA tys P => ?_⟩
  obtain ⟨p1, p2, p3, p4, p5, p6, p7⟩ := P
  have l3 := am_ld_at (L := la_L i) (j := 3) (t := 0) (z := (i : Int)) rfl (show (0 : Nat) ≠ 9 by decide) p3
  have g2 := g.2 H locs cells slots ad cA tys ⟨p1, p2, p3, p4, p5, fun v hv => by
    rcases List.mem_cons.mp hv with e | hv
    · rw [e]; exact am_ok_0 (la_x_r xs _)
    · exact p6 v hv, p7⟩
  dsimp only at g2 ⊢
  rw [List.map_cons, la_cv_x] at g2
  refine lv_aload_n C.1 C.2.1 d0 rfl h0 ?_
  refine lv_iload_n C.1 C.2.1 d1 rfl l3 ?_
  refine lv_iconst C.1 C.2.1 d2 (v := Int32.ofInt (k : Int)) rfl ?_
  refine lv_iadd C.1 C.2.1 d3 ?_
  rw [la_add]
  refine va_sld C.1 C.2.1 hX hbl (by rw [hB]; exact Nat.not_le.mpr hbl) p1 (am_i_in ⟨by omega, by omega⟩ (by omega) (by omega)) d4 ?_
  rw [la_i_cl (by omega)]
  exact g2
theorem r_arg0 {ls : Array Slot} {p : Program} {l : Launch} {e : Env} {R : Room} {s : State} {m : MethodId} {args : Array Value} {below : List Frame} {meth : Method} {c : Code} {Q : State → Prop} {D : va_G} {B0 : Nat} {ka : Nat → Nat} {vF : Value} {md : Bool} {n0 c0 s0 : Nat} {ad0 : Nat → Nat} {nf : Nat} {G : am_S → Prop} (hG : G = la_Go ls p l e R s m args below meth c Q D B0 ka vF md 277 n0 c0 s0 ad0 nf) (C : am_Cx p s m args c 277 B0 ka vF) {b Ls i : Nat} {xs : Nat → Int32} (hX : va_X b Ls xs s s.heap) (hbl : b < s.heap.size) (hB : B0 = s.heap.size) (h0 : ls[0]? = some (.val (.ref b))) (hL : Ls ≤ 3072) (hk : i < Ls) {pc nx : Nat} {st : List am_V} {σ : am_M} {n : Nat} (hc : am_code 277 pc = some (.aload_n 0, pc + 1, (0, 0, 0, 0), none) ∧ am_code 277 (pc + 1) = some (.iload_n 3, pc + 2, (0, 0, 0, 0), none) ∧ am_code 277 (pc + 2) = some (.iaload, pc + 3, (0, 0, 0, 0), none)) (hp : nx = pc + 3) (g : G (nx, la_L i, (0, la_x xs i) :: st, σ, n)) : G (pc, la_L i, st, σ, n) := by
  obtain ⟨c0, c1, c4⟩ := hc
  obtain ⟨d0, -, -⟩ := la_dec c0 rfl
  obtain ⟨d1, -, -⟩ := la_dec c1 rfl
  obtain ⟨d4, -, -⟩ := la_dec c4 rfl
  subst hp
  subst hG
  refine ⟨g.1, fun H locs cells slots ad cA tys P => ?_⟩
  obtain ⟨p1, p2, p3, p4, p5, p6, p7⟩ := P
  have l3 := am_ld_at (L := la_L i) (j := 3) (t := 0) (z := (i : Int)) rfl (show (0 : Nat) ≠ 9 by decide) p3
  have g2 := g.2 H locs cells slots ad cA tys ⟨p1, p2, p3, p4, p5, fun v hv => by
    rcases List.mem_cons.mp hv with e | hv
    · rw [e]; exact am_ok_0 (la_x_r xs _)
    · exact p6 v hv, p7⟩
  dsimp only at g2 ⊢
  rw [List.map_cons, la_cv_x] at g2
  refine lv_aload_n C.1 C.2.1 d0 rfl h0 ?_
  refine lv_iload_n C.1 C.2.1 d1 rfl l3 ?_
  refine va_sld C.1 C.2.1 hX hbl (by rw [hB]; exact Nat.not_le.mpr hbl) p1 (am_i_in ⟨by omega, by omega⟩ (by omega) (by omega)) d4 ?_
  rw [la_i_cl (by omega)]
  exact g2
def la_os : List Int := [187, 230, 303, 366, 400, 433, 456, 489, 542, 575, 608, 631, 664, 697, 740, 783, 806, 819, 852, 875, 908, 941, 964, 987, 1010, 1059, 1103, 1147, 1190, 1233, 1266, 1320, 1363, 1396, 1420, 1443, 1476, 1530, 1553, 1576, 1599, 1612, 1625]
def la_tgs : List Nat := [220, 263, 336, 399, 433, 466, 489, 522, 575, 608, 641, 664, 697, 730, 773, 816, 839, 852, 885, 908, 941, 974, 997, 1020, 1043, 1092, 1136, 1180, 1223, 1266, 1299, 1353, 1396, 1429, 1453, 1476, 1509, 1563, 1586, 1609, 1632, 1645, 1658, 1681]
theorem la_tgs_ok : ∀ o ∈ la_os, am_nn ((33 : Nat) + o : Int) = true ∧ am_tgt 33 o ∈ la_tgs := by decide +kernel
theorem r_sw {ls : Array Slot} {p : Program} {l : Launch} {e : Env} {R : Room} {s : State} {m : MethodId} {args : Array Value} {below : List Frame} {meth : Method} {c : Code} {Q : State → Prop} {D : va_G} {B0 : Nat} {ka : Nat → Nat} {vF : Value} {md : Bool} {n0 c0 s0 : Nat} {ad0 : Nat → Nat} {nf : Nat} {G : am_S → Prop} (hG : G = la_Go ls p l e R s m args below meth c Q D B0 ka vF md 277 n0 c0 s0 ad0 nf) (C : am_Cx p s m args c 277 B0 ka vF) {L st : List am_V} {σ : am_M} {n : Nat} {z : Int} {nx : Nat} {x : Nat × Nat × Nat × Nat} {w : Option (List Bool)} (hc : am_code 277 33 = some (.tableswitch 1648 0 42 la_os.toArray, nx, x, w)) (g : ∀ t ∈ la_tgs, G (t, L, st, σ, n)) : G (33, L, (0, z) :: st, σ, n) := by
  have hek := la_eok hc
  unfold am_eok at hek
  rw [Bool.and_eq_true] at hek
  obtain ⟨hdec, hx⟩ := hek
  cases hd : decode (am_by 277) 33 with
  | error x => rw [hd] at hdec; cases hdec
  | ok il =>
    obtain ⟨i', len⟩ := il
    rw [hd] at hdec
    have hdec : (decide (i' = .tableswitch 1648 0 42 la_os.toArray) && Nat.beq nx (33 + len) && (am_isw i' || Nat.beq len (am_il i'))) = true := hdec
    simp only [Bool.and_eq_true] at hdec
    have hi : i' = .tableswitch 1648 0 42 la_os.toArray := of_decide_eq_true hdec.1.1
    subst hi
    refine la_tableswitch (nx := nx) hG C la_kt hd rfl ?_
    show am_sw z (am_jmp 33 1648 (fun t => la_k G (t, L, st, σ, n))) (am_tsw 33 (fun t => la_k G (t, L, st, σ, n)) 0 la_os) = some la_r
    refine la_sw (la_kp (g 1681 (by decide +kernel))) (la_tsw fun o ho => ?_)
    obtain ⟨e1, e2⟩ := la_tgs_ok o ho
    unfold am_jmp
    rw [e1]
    exact la_kp (g _ e2)
