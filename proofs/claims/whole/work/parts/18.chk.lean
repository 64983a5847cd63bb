def am_ini : Nat → Bool := fun i => bif Nat.blt i 6 then (bif Nat.blt i 3 then (bif Nat.blt i 2 then (bif Nat.beq i 1 then true else false) else (bif Nat.beq i 2 then true else false)) else (bif Nat.blt i 4 then (bif Nat.beq i 3 then true else false) else (bif Nat.blt i 5 then (bif Nat.beq i 4 then true else false) else (bif Nat.beq i 5 then true else false)))) else (bif Nat.blt i 9 then (bif Nat.blt i 7 then (bif Nat.beq i 6 then true else false) else (bif Nat.blt i 8 then (bif Nat.beq i 7 then true else false) else (bif Nat.beq i 8 then true else false))) else (bif Nat.blt i 10 then (bif Nat.beq i 9 then true else false) else (bif Nat.blt i 11 then (bif Nat.beq i 10 then true else false) else (bif Nat.beq i 11 then true else false))))
def am_tykl : Nat → List Nat := fun i => bif Nat.blt i 5 then (bif Nat.blt i 2 then (bif Nat.blt i 1 then (bif Nat.beq i 0 then [3, 3, 0, 1, 1, 1] else []) else (bif Nat.beq i 1 then [3, 3, 3, 3, 3, 0, 0] else [])) else (bif Nat.blt i 3 then (bif Nat.beq i 2 then [3, 0, 0, 0, 0, 0, 0, 0, 0, 0, 0, 0] else []) else (bif Nat.blt i 4 then (bif Nat.beq i 3 then [0, 3, 3, 0, 3, 3, 3, 3, 3, 0, 3, 3, 3, 3, 3, 0, 0, 0] else []) else (bif Nat.beq i 4 then [3, 3, 3, 0] else [])))) else (bif Nat.blt i 8 then (bif Nat.blt i 6 then (bif Nat.beq i 5 then [3, 3, 0, 0, 3, 3, 3, 3, 3, 3, 0, 3, 3, 3, 3] else []) else (bif Nat.blt i 7 then (bif Nat.beq i 6 then [3, 0, 0, 0] else []) else (bif Nat.beq i 7 then [3, 3, 3, 3, 0] else []))) else (bif Nat.blt i 9 then (bif Nat.beq i 8 then [3, 3, 3, 3, 3, 0, 0, 0, 0, 0, 0, 0, 0, 0, 0, 1] else []) else (bif Nat.blt i 10 then (bif Nat.beq i 9 then [3, 3, 3, 3, 3, 3, 3, 3, 3, 3, 3, 2, 0] else []) else (bif Nat.beq i 10 then [0, 0, 0, 0, 0, 0, 0, 0, 0, 3, 3, 3, 3, 3, 3, 3, 3, 3, 3, 3, 3, 3, 3, 3, 3, 3, 3, 3, 3, 3, 3, 3, 3, 3, 3, 0, 3, 3, 3, 3, 3, 3, 3, 3, 3, 3, 3, 3, 3, 3, 3, 3, 0, 3, 3, 3, 3, 3, 3, 3, 3, 3, 3, 3, 0, 0, 0, 0, 3, 0, 0, 2, 3, 3, 3, 3, 3, 3, 3] else []))))
def am_tyk (c k : Nat) : Nat := am_at 9 (am_tykl c) k
def am_il : Instr → Nat
  | .bipush _ => 2
  | .iload _ => 2
  | .lload _ => 2
  | .aload _ => 2
  | .istore _ => 2
  | .lstore _ => 2
  | .astore _ => 2
  | .ldc _ => 2
  | .newarray _ => 2
  | .sipush _ => 3
  | .iinc _ _ => 3
  | .goto _ => 3
  | .ifCond _ _ => 3
  | .if_icmp _ _ => 3
  | .getfield _ => 3
  | .putfield _ => 3
  | .getstatic _ => 3
  | .invokevirtual _ => 3
  | .invokestatic _ => 3
  | .invokespecial _ => 3
  | .new _ => 3
  | .anewarray _ => 3
  | .ldc_w _ => 3
  | .ldc2_w _ => 3
  | _ => 1
def am_isw (i : Instr) : Bool := match i with
  | .tableswitch _ _ _ _ => true
  | .lookupswitch _ _ => true
  | _ => false
def am_rkT (k : Nat) : Option FieldType := bif Nat.beq k 0 then some .int else bif Nat.beq k 1 then some .long else bif Nat.beq k 2 then some .boolean else bif Nat.beq k 3 then some .char else bif Nat.beq k 4 then some .byte else bif Nat.beq k 16 then some (.object "java/lang/String") else none
def am_rkt (k : Nat) : Nat := bif Nat.beq k 1 then 1 else bif Nat.beq k 9 then 9 else bif Nat.beq k 16 then 16 else 0
def am_okf (own i : Nat) (x : Nat × Nat × Nat × Nat) : Bool := (am_flk own).any (fun f => Nat.beq f.1 i && Nat.beq f.2.1 x.1 && Nat.beq f.2.2.1 x.2.1)
def am_oki (x : Nat × Nat × Nat × Nat) : Bool := Nat.blt x.1 11 && Nat.blt x.2.1 (am_ft x.1).length && Nat.beq x.2.2.1 (am_at 0 (am_ft x.1) x.2.1)
def am_okc (own i y kind : Nat) : Bool := (am_clk own).any (fun f => Nat.beq f.1 i && Nat.beq f.2.1 y && Nat.beq f.2.2.1 kind)
def am_xok (y pc : Nat) (i : Instr) (x : Nat × Nat × Nat × Nat) : Bool := match i with
  | .goto o => decide ((pc : Int) + o = (x.1 : Int))
  | .ifCond _ o => decide ((pc : Int) + o = (x.1 : Int))
  | .if_icmp _ o => decide ((pc : Int) + o = (x.1 : Int))
  | .aconst_null => Nat.blt x.1 111
  | .tableswitch _ lo hi os => decide (lo + (os.size : Int) = hi + 1)
  | .lookupswitch _ ps => (ps.toList.zip (ps.toList.drop 1)).all (fun (a, next) => a.1 < next.1)
  | .getfield j => am_okf (am_own y) j x && (bif Nat.beq x.1 16 then Nat.blt x.2.1 2 else am_oki x && (bif Nat.beq x.2.2.2 1 then am_at false (am_isf x.1) x.2.1 else true))
  | .putfield j => am_okf (am_own y) j x && am_oki x && (bif Nat.beq x.2.2.2 1 then true else !am_at false (am_isf x.1) x.2.1) && (bif (am_T x.1 x.2.1).2.2.2 then am_ini y && Nat.beq (am_own y) x.1 else true) && (bif Nat.beq x.2.2.2 2 then Nat.beq (am_tyk x.1 x.2.1) 2 else !Nat.beq (am_tyk x.1 x.2.1) 2)
  | .ldc j => (am_klk (am_own y)).any (fun f => Nat.beq f.1 j && Nat.beq f.2.1 x.1 && Nat.beq f.2.2.1 x.2.1 && Nat.beq f.2.2.2.1 x.2.2.1) && (bif Nat.beq x.1 16 then Nat.blt 1999 x.2.1 && Nat.blt x.2.1 2008 && Nat.beq x.2.2.1 0 else Nat.beq x.1 0 && Nat.blt x.2.1 2147483648)
  | .ldc_w j => (am_klk (am_own y)).any (fun f => Nat.beq f.1 j && Nat.beq f.2.1 x.1 && Nat.beq f.2.2.1 x.2.1 && Nat.beq f.2.2.2.1 x.2.2.1) && (bif Nat.beq x.1 16 then Nat.blt 1999 x.2.1 && Nat.blt x.2.1 2008 && Nat.beq x.2.2.1 0 else Nat.beq x.1 0 && Nat.blt x.2.1 2147483648)
  | .ldc2_w j => (am_klk (am_own y)).any (fun f => Nat.beq f.1 j && Nat.beq f.2.1 x.1 && Nat.beq f.2.2.1 x.2.1 && Nat.beq f.2.2.2.1 x.2.2.1) && Nat.beq x.1 1 && Nat.blt x.2.1 9223372036854775808
  | .getstatic j => (am_glk (am_own y)).any (fun f => Nat.beq f.1 j && (bif Nat.blt f.2.1 7 then Nat.beq x.1 21 && Nat.beq x.2.1 (1000 + f.2.1) else bif Nat.beq f.2.1 7 then Nat.beq x.1 0 && Nat.beq x.2.1 1 else Nat.beq f.2.1 8 && Nat.beq x.1 17 && Nat.beq x.2.1 0)) && Nat.beq x.2.2.1 0
  | .new j => (am_nlk (am_own y)).any (fun f => Nat.beq f.1 j && Nat.beq f.2.1 x.1) && Nat.blt x.1 11
  | .newarray t => match t with
    | .int => Nat.beq x.1 11
    | .long => Nat.beq x.1 12
    | .byte => Nat.beq x.1 13
    | .boolean => Nat.beq x.1 14
    | _ => false
  | .anewarray j => (am_nlk (am_own y)).any (fun f => Nat.beq f.1 j && Nat.beq f.2.1 6)
  | .invokevirtual j => !Nat.beq x.2.1 99 && (Nat.beq x.2.1 99 || (am_okc (am_own y) j x.1 0 && Nat.blt x.1 277 && Nat.beq (am_npar x.1 + 1) x.2.1 && Nat.beq (am_rkt (am_rk x.1)) x.2.2.2 && ((Nat.blt (am_own x.1) 11 && Nat.beq x.2.2.1 (100 + am_own x.1)) || (Nat.beq x.2.2.1 16 && Nat.beq (am_own x.1) 14))))
  | .invokestatic j => !Nat.beq x.2.1 99 && (Nat.beq x.2.1 99 || (bif Nat.beq x.2.2.1 6 then am_okc (am_own y) j 0 6 else bif Nat.beq x.2.2.1 7 then am_okc (am_own y) j x.1 7 && Nat.blt x.1 4 else (am_okc (am_own y) j x.1 1 || am_okc (am_own y) j x.1 3) && Nat.blt x.1 277 && Nat.beq (am_npar x.1) x.2.1 && Nat.beq (am_rkt (am_rk x.1)) x.2.2.2))
  | .invokespecial j => !Nat.beq x.2.1 99 && (Nat.beq x.2.1 99 || (bif Nat.beq x.2.2.1 5 then am_okc (am_own y) j 0 5 else (am_okc (am_own y) j x.1 2 || am_okc (am_own y) j x.1 4) && Nat.blt x.1 277 && Nat.beq (am_npar x.1 + 1) x.2.1 && Nat.beq (am_rk x.1) 9 && Nat.blt (am_own x.1) 11 && Nat.beq x.2.2.2 (100 + am_own x.1) && am_ini x.1))
  | _ => true
def am_eok (y pc : Nat) (e : am_E) : Bool := (match decode (am_by y) pc with
  | .ok (i, l) => decide (i = e.1) && Nat.beq e.2.1 (pc + l) && (am_isw i || Nat.beq l (am_il i))
  | .error _ => false) && am_xok y pc e.1 e.2.2.1
def am_ek (y pc : Nat) : Bool := match am_code y pc with
  | none => true
  | some e => am_eok y pc e
theorem am_ek_none {y pc : Nat} (h : am_code y pc = none) : am_ek y pc = true := by
  unfold am_ek
  rw [h]
theorem am_ek_u {y m a pc : Nat} (h : ((List.range m).map (fun i => am_ek y (i + a))).all id = true) (h1 : a ≤ pc) (h2 : pc < a + m) : am_ek y pc = true := by
  have := List.all_eq_true.mp h (am_ek y pc) (List.mem_map.mpr ⟨pc - a, List.mem_range.mpr (by omega), by rw [Nat.sub_add_cancel h1]⟩)
  exact this
theorem am_blt_f {α : Type} {a b : Nat} (h : b ≤ a) (x y : α) : (bif Nat.blt a b then x else y) = y := by
  have : Nat.blt a b = false := by
    cases q : Nat.blt a b with
    | false => rfl
    | true => exact absurd (Nat.le_of_ble_eq_true q) (by omega)
  rw [this]
  rfl
set_option maxRecDepth 100000 in
theorem am_k0_0 : ((List.range 21).map (fun i => am_ek 0 (i + 0))).all id = true := by decide +kernel
theorem am_ky0 (pc : Nat) : am_ek 0 pc = true := by
  rcases Nat.lt_or_ge pc 21 with q | q
  · exact am_ek_u am_k0_0 (by omega) (by omega)
  refine am_ek_none ?_
  show (bif Nat.blt pc 21 then am_cr0 pc else none) = none
  exact am_blt_f q _ _
set_option maxRecDepth 100000 in
theorem am_k1_0 : ((List.range 48).map (fun i => am_ek 1 (i + 0))).all id = true := by decide +kernel
set_option maxRecDepth 100000 in
theorem am_k1_1 : ((List.range 48).map (fun i => am_ek 1 (i + 48))).all id = true := by decide +kernel
set_option maxRecDepth 100000 in
theorem am_k1_2 : ((List.range 46).map (fun i => am_ek 1 (i + 96))).all id = true := by decide +kernel
theorem am_ky1 (pc : Nat) : am_ek 1 pc = true := by
  rcases Nat.lt_or_ge pc 48 with q | q
  · exact am_ek_u am_k1_0 (by omega) (by omega)
  rcases Nat.lt_or_ge pc 96 with q | q
  · exact am_ek_u am_k1_1 (by omega) (by omega)
  rcases Nat.lt_or_ge pc 142 with q | q
  · exact am_ek_u am_k1_2 (by omega) (by omega)
  refine am_ek_none ?_
  show (bif Nat.blt pc 142 then am_cr1 pc else none) = none
  exact am_blt_f q _ _
set_option maxRecDepth 100000 in
theorem am_k2_0 : ((List.range 25).map (fun i => am_ek 2 (i + 0))).all id = true := by decide +kernel
theorem am_ky2 (pc : Nat) : am_ek 2 pc = true := by
  rcases Nat.lt_or_ge pc 25 with q | q
  · exact am_ek_u am_k2_0 (by omega) (by omega)
  refine am_ek_none ?_
  show (bif Nat.blt pc 25 then am_cr2 pc else none) = none
  exact am_blt_f q _ _
set_option maxRecDepth 100000 in
theorem am_k3_0 : ((List.range 39).map (fun i => am_ek 3 (i + 0))).all id = true := by decide +kernel
theorem am_ky3 (pc : Nat) : am_ek 3 pc = true := by
  rcases Nat.lt_or_ge pc 39 with q | q
  · exact am_ek_u am_k3_0 (by omega) (by omega)
  refine am_ek_none ?_
  show (bif Nat.blt pc 39 then am_cr3 pc else none) = none
  exact am_blt_f q _ _
set_option maxRecDepth 100000 in
theorem am_k4_0 : ((List.range 26).map (fun i => am_ek 4 (i + 0))).all id = true := by decide +kernel
theorem am_ky4 (pc : Nat) : am_ek 4 pc = true := by
  rcases Nat.lt_or_ge pc 26 with q | q
  · exact am_ek_u am_k4_0 (by omega) (by omega)
  refine am_ek_none ?_
  show (bif Nat.blt pc 26 then am_cr4 pc else none) = none
  exact am_blt_f q _ _
set_option maxRecDepth 100000 in
theorem am_k5_0 : ((List.range 48).map (fun i => am_ek 5 (i + 0))).all id = true := by decide +kernel
set_option maxRecDepth 100000 in
theorem am_k5_1 : ((List.range 3).map (fun i => am_ek 5 (i + 48))).all id = true := by decide +kernel
theorem am_ky5 (pc : Nat) : am_ek 5 pc = true := by
  rcases Nat.lt_or_ge pc 48 with q | q
  · exact am_ek_u am_k5_0 (by omega) (by omega)
  rcases Nat.lt_or_ge pc 51 with q | q
  · exact am_ek_u am_k5_1 (by omega) (by omega)
  refine am_ek_none ?_
  show (bif Nat.blt pc 51 then am_cr5 pc else none) = none
  exact am_blt_f q _ _
set_option maxRecDepth 100000 in
theorem am_k6_0 : ((List.range 48).map (fun i => am_ek 6 (i + 0))).all id = true := by decide +kernel
set_option maxRecDepth 100000 in
theorem am_k6_1 : ((List.range 12).map (fun i => am_ek 6 (i + 48))).all id = true := by decide +kernel
theorem am_ky6 (pc : Nat) : am_ek 6 pc = true := by
  rcases Nat.lt_or_ge pc 48 with q | q
  · exact am_ek_u am_k6_0 (by omega) (by omega)
  rcases Nat.lt_or_ge pc 60 with q | q
  · exact am_ek_u am_k6_1 (by omega) (by omega)
  refine am_ek_none ?_
  show (bif Nat.blt pc 60 then am_cr6 pc else none) = none
  exact am_blt_f q _ _
set_option maxRecDepth 100000 in
theorem am_k7_0 : ((List.range 48).map (fun i => am_ek 7 (i + 0))).all id = true := by decide +kernel
set_option maxRecDepth 100000 in
theorem am_k7_1 : ((List.range 48).map (fun i => am_ek 7 (i + 48))).all id = true := by decide +kernel
set_option maxRecDepth 100000 in
theorem am_k7_2 : ((List.range 14).map (fun i => am_ek 7 (i + 96))).all id = true := by decide +kernel
theorem am_ky7 (pc : Nat) : am_ek 7 pc = true := by
  rcases Nat.lt_or_ge pc 48 with q | q
  · exact am_ek_u am_k7_0 (by omega) (by omega)
  rcases Nat.lt_or_ge pc 96 with q | q
  · exact am_ek_u am_k7_1 (by omega) (by omega)
  rcases Nat.lt_or_ge pc 110 with q | q
  · exact am_ek_u am_k7_2 (by omega) (by omega)
  refine am_ek_none ?_
  show (bif Nat.blt pc 110 then am_cr7 pc else none) = none
  exact am_blt_f q _ _
set_option maxRecDepth 100000 in
theorem am_k8_0 : ((List.range 35).map (fun i => am_ek 8 (i + 0))).all id = true := by decide +kernel
theorem am_ky8 (pc : Nat) : am_ek 8 pc = true := by
  rcases Nat.lt_or_ge pc 35 with q | q
  · exact am_ek_u am_k8_0 (by omega) (by omega)
  refine am_ek_none ?_
  show (bif Nat.blt pc 35 then am_cr8 pc else none) = none
  exact am_blt_f q _ _
set_option maxRecDepth 100000 in
theorem am_k9_0 : ((List.range 29).map (fun i => am_ek 9 (i + 0))).all id = true := by decide +kernel
theorem am_ky9 (pc : Nat) : am_ek 9 pc = true := by
  rcases Nat.lt_or_ge pc 29 with q | q
  · exact am_ek_u am_k9_0 (by omega) (by omega)
  refine am_ek_none ?_
  show (bif Nat.blt pc 29 then am_cr9 pc else none) = none
  exact am_blt_f q _ _
set_option maxRecDepth 100000 in
theorem am_k10_0 : ((List.range 48).map (fun i => am_ek 10 (i + 0))).all id = true := by decide +kernel
set_option maxRecDepth 100000 in
theorem am_k10_1 : ((List.range 48).map (fun i => am_ek 10 (i + 48))).all id = true := by decide +kernel
set_option maxRecDepth 100000 in
theorem am_k10_2 : ((List.range 48).map (fun i => am_ek 10 (i + 96))).all id = true := by decide +kernel
set_option maxRecDepth 100000 in
theorem am_k10_3 : ((List.range 34).map (fun i => am_ek 10 (i + 144))).all id = true := by decide +kernel
theorem am_ky10 (pc : Nat) : am_ek 10 pc = true := by
  rcases Nat.lt_or_ge pc 48 with q | q
  · exact am_ek_u am_k10_0 (by omega) (by omega)
  rcases Nat.lt_or_ge pc 96 with q | q
  · exact am_ek_u am_k10_1 (by omega) (by omega)
  rcases Nat.lt_or_ge pc 144 with q | q
  · exact am_ek_u am_k10_2 (by omega) (by omega)
  rcases Nat.lt_or_ge pc 178 with q | q
  · exact am_ek_u am_k10_3 (by omega) (by omega)
  refine am_ek_none ?_
  show (bif Nat.blt pc 178 then am_cr10 pc else none) = none
  exact am_blt_f q _ _
set_option maxRecDepth 100000 in
theorem am_k11_0 : ((List.range 48).map (fun i => am_ek 11 (i + 0))).all id = true := by decide +kernel
set_option maxRecDepth 100000 in
theorem am_k11_1 : ((List.range 48).map (fun i => am_ek 11 (i + 48))).all id = true := by decide +kernel
set_option maxRecDepth 100000 in
theorem am_k11_2 : ((List.range 48).map (fun i => am_ek 11 (i + 96))).all id = true := by decide +kernel
set_option maxRecDepth 100000 in
theorem am_k11_3 : ((List.range 48).map (fun i => am_ek 11 (i + 144))).all id = true := by decide +kernel
set_option maxRecDepth 100000 in
theorem am_k11_4 : ((List.range 48).map (fun i => am_ek 11 (i + 192))).all id = true := by decide +kernel
set_option maxRecDepth 100000 in
theorem am_k11_5 : ((List.range 48).map (fun i => am_ek 11 (i + 240))).all id = true := by decide +kernel
set_option maxRecDepth 100000 in
theorem am_k11_6 : ((List.range 48).map (fun i => am_ek 11 (i + 288))).all id = true := by decide +kernel
set_option maxRecDepth 100000 in
theorem am_k11_7 : ((List.range 48).map (fun i => am_ek 11 (i + 336))).all id = true := by decide +kernel
set_option maxRecDepth 100000 in
theorem am_k11_8 : ((List.range 48).map (fun i => am_ek 11 (i + 384))).all id = true := by decide +kernel
set_option maxRecDepth 100000 in
theorem am_k11_9 : ((List.range 48).map (fun i => am_ek 11 (i + 432))).all id = true := by decide +kernel
set_option maxRecDepth 100000 in
theorem am_k11_10 : ((List.range 48).map (fun i => am_ek 11 (i + 480))).all id = true := by decide +kernel
theorem am_ky11 (pc : Nat) : am_ek 11 pc = true := by
  rcases Nat.lt_or_ge pc 48 with q | q
  · exact am_ek_u am_k11_0 (by omega) (by omega)
  rcases Nat.lt_or_ge pc 96 with q | q
  · exact am_ek_u am_k11_1 (by omega) (by omega)
  rcases Nat.lt_or_ge pc 144 with q | q
  · exact am_ek_u am_k11_2 (by omega) (by omega)
  rcases Nat.lt_or_ge pc 192 with q | q
  · exact am_ek_u am_k11_3 (by omega) (by omega)
  rcases Nat.lt_or_ge pc 240 with q | q
  · exact am_ek_u am_k11_4 (by omega) (by omega)
  rcases Nat.lt_or_ge pc 288 with q | q
  · exact am_ek_u am_k11_5 (by omega) (by omega)
  rcases Nat.lt_or_ge pc 336 with q | q
  · exact am_ek_u am_k11_6 (by omega) (by omega)
  rcases Nat.lt_or_ge pc 384 with q | q
  · exact am_ek_u am_k11_7 (by omega) (by omega)
  rcases Nat.lt_or_ge pc 432 with q | q
  · exact am_ek_u am_k11_8 (by omega) (by omega)
  rcases Nat.lt_or_ge pc 480 with q | q
  · exact am_ek_u am_k11_9 (by omega) (by omega)
  rcases Nat.lt_or_ge pc 528 with q | q
  · exact am_ek_u am_k11_10 (by omega) (by omega)
  refine am_ek_none ?_
  show (bif Nat.blt pc 528 then am_cr11 pc else none) = none
  exact am_blt_f q _ _
set_option maxRecDepth 100000 in
theorem am_k12_0 : ((List.range 16).map (fun i => am_ek 12 (i + 0))).all id = true := by decide +kernel
theorem am_ky12 (pc : Nat) : am_ek 12 pc = true := by
  rcases Nat.lt_or_ge pc 16 with q | q
  · exact am_ek_u am_k12_0 (by omega) (by omega)
  refine am_ek_none ?_
  show (bif Nat.blt pc 16 then am_cr12 pc else none) = none
  exact am_blt_f q _ _
set_option maxRecDepth 100000 in
theorem am_k13_0 : ((List.range 24).map (fun i => am_ek 13 (i + 0))).all id = true := by decide +kernel
theorem am_ky13 (pc : Nat) : am_ek 13 pc = true := by
  rcases Nat.lt_or_ge pc 24 with q | q
  · exact am_ek_u am_k13_0 (by omega) (by omega)
  refine am_ek_none ?_
  show (bif Nat.blt pc 24 then am_cr13 pc else none) = none
  exact am_blt_f q _ _
set_option maxRecDepth 100000 in
theorem am_k14_0 : ((List.range 23).map (fun i => am_ek 14 (i + 0))).all id = true := by decide +kernel
theorem am_ky14 (pc : Nat) : am_ek 14 pc = true := by
  rcases Nat.lt_or_ge pc 23 with q | q
  · exact am_ek_u am_k14_0 (by omega) (by omega)
  refine am_ek_none ?_
  show (bif Nat.blt pc 23 then am_cr14 pc else none) = none
  exact am_blt_f q _ _
set_option maxRecDepth 100000 in
theorem am_k15_0 : ((List.range 24).map (fun i => am_ek 15 (i + 0))).all id = true := by decide +kernel
theorem am_ky15 (pc : Nat) : am_ek 15 pc = true := by
  rcases Nat.lt_or_ge pc 24 with q | q
  · exact am_ek_u am_k15_0 (by omega) (by omega)
  refine am_ek_none ?_
  show (bif Nat.blt pc 24 then am_cr15 pc else none) = none
  exact am_blt_f q _ _
set_option maxRecDepth 100000 in
theorem am_k16_0 : ((List.range 48).map (fun i => am_ek 16 (i + 0))).all id = true := by decide +kernel
set_option maxRecDepth 100000 in
theorem am_k16_1 : ((List.range 18).map (fun i => am_ek 16 (i + 48))).all id = true := by decide +kernel
theorem am_ky16 (pc : Nat) : am_ek 16 pc = true := by
  rcases Nat.lt_or_ge pc 48 with q | q
  · exact am_ek_u am_k16_0 (by omega) (by omega)
  rcases Nat.lt_or_ge pc 66 with q | q
  · exact am_ek_u am_k16_1 (by omega) (by omega)
  refine am_ek_none ?_
  show (bif Nat.blt pc 66 then am_cr16 pc else none) = none
  exact am_blt_f q _ _
set_option maxRecDepth 100000 in
theorem am_k17_0 : ((List.range 16).map (fun i => am_ek 17 (i + 0))).all id = true := by decide +kernel
theorem am_ky17 (pc : Nat) : am_ek 17 pc = true := by
  rcases Nat.lt_or_ge pc 16 with q | q
  · exact am_ek_u am_k17_0 (by omega) (by omega)
  refine am_ek_none ?_
  show (bif Nat.blt pc 16 then am_cr17 pc else none) = none
  exact am_blt_f q _ _
set_option maxRecDepth 100000 in
theorem am_k18_0 : ((List.range 13).map (fun i => am_ek 18 (i + 0))).all id = true := by decide +kernel
theorem am_ky18 (pc : Nat) : am_ek 18 pc = true := by
  rcases Nat.lt_or_ge pc 13 with q | q
  · exact am_ek_u am_k18_0 (by omega) (by omega)
  refine am_ek_none ?_
  show (bif Nat.blt pc 13 then am_cr18 pc else none) = none
  exact am_blt_f q _ _
set_option maxRecDepth 100000 in
theorem am_k19_0 : ((List.range 48).map (fun i => am_ek 19 (i + 0))).all id = true := by decide +kernel
set_option maxRecDepth 100000 in
theorem am_k19_1 : ((List.range 48).map (fun i => am_ek 19 (i + 48))).all id = true := by decide +kernel
set_option maxRecDepth 100000 in
theorem am_k19_2 : ((List.range 13).map (fun i => am_ek 19 (i + 96))).all id = true := by decide +kernel
theorem am_ky19 (pc : Nat) : am_ek 19 pc = true := by
  rcases Nat.lt_or_ge pc 48 with q | q
  · exact am_ek_u am_k19_0 (by omega) (by omega)
  rcases Nat.lt_or_ge pc 96 with q | q
  · exact am_ek_u am_k19_1 (by omega) (by omega)
  rcases Nat.lt_or_ge pc 109 with q | q
  · exact am_ek_u am_k19_2 (by omega) (by omega)
  refine am_ek_none ?_
  show (bif Nat.blt pc 109 then am_cr19 pc else none) = none
  exact am_blt_f q _ _
set_option maxRecDepth 100000 in
theorem am_k20_0 : ((List.range 14).map (fun i => am_ek 20 (i + 0))).all id = true := by decide +kernel
theorem am_ky20 (pc : Nat) : am_ek 20 pc = true := by
  rcases Nat.lt_or_ge pc 14 with q | q
  · exact am_ek_u am_k20_0 (by omega) (by omega)
  refine am_ek_none ?_
  show (bif Nat.blt pc 14 then am_cr20 pc else none) = none
  exact am_blt_f q _ _
set_option maxRecDepth 100000 in
theorem am_k21_0 : ((List.range 14).map (fun i => am_ek 21 (i + 0))).all id = true := by decide +kernel
theorem am_ky21 (pc : Nat) : am_ek 21 pc = true := by
  rcases Nat.lt_or_ge pc 14 with q | q
  · exact am_ek_u am_k21_0 (by omega) (by omega)
  refine am_ek_none ?_
  show (bif Nat.blt pc 14 then am_cr21 pc else none) = none
  exact am_blt_f q _ _
set_option maxRecDepth 100000 in
theorem am_k22_0 : ((List.range 41).map (fun i => am_ek 22 (i + 0))).all id = true := by decide +kernel
theorem am_ky22 (pc : Nat) : am_ek 22 pc = true := by
  rcases Nat.lt_or_ge pc 41 with q | q
  · exact am_ek_u am_k22_0 (by omega) (by omega)
  refine am_ek_none ?_
  show (bif Nat.blt pc 41 then am_cr22 pc else none) = none
  exact am_blt_f q _ _
set_option maxRecDepth 100000 in
theorem am_k23_0 : ((List.range 28).map (fun i => am_ek 23 (i + 0))).all id = true := by decide +kernel
theorem am_ky23 (pc : Nat) : am_ek 23 pc = true := by
  rcases Nat.lt_or_ge pc 28 with q | q
  · exact am_ek_u am_k23_0 (by omega) (by omega)
  refine am_ek_none ?_
  show (bif Nat.blt pc 28 then am_cr23 pc else none) = none
  exact am_blt_f q _ _
set_option maxRecDepth 100000 in
theorem am_k24_0 : ((List.range 48).map (fun i => am_ek 24 (i + 0))).all id = true := by decide +kernel
set_option maxRecDepth 100000 in
theorem am_k24_1 : ((List.range 38).map (fun i => am_ek 24 (i + 48))).all id = true := by decide +kernel
theorem am_ky24 (pc : Nat) : am_ek 24 pc = true := by
  rcases Nat.lt_or_ge pc 48 with q | q
  · exact am_ek_u am_k24_0 (by omega) (by omega)
  rcases Nat.lt_or_ge pc 86 with q | q
  · exact am_ek_u am_k24_1 (by omega) (by omega)
  refine am_ek_none ?_
  show (bif Nat.blt pc 86 then am_cr24 pc else none) = none
  exact am_blt_f q _ _
set_option maxRecDepth 100000 in
theorem am_k25_0 : ((List.range 48).map (fun i => am_ek 25 (i + 0))).all id = true := by decide +kernel
set_option maxRecDepth 100000 in
theorem am_k25_1 : ((List.range 4).map (fun i => am_ek 25 (i + 48))).all id = true := by decide +kernel
theorem am_ky25 (pc : Nat) : am_ek 25 pc = true := by
  rcases Nat.lt_or_ge pc 48 with q | q
  · exact am_ek_u am_k25_0 (by omega) (by omega)
  rcases Nat.lt_or_ge pc 52 with q | q
  · exact am_ek_u am_k25_1 (by omega) (by omega)
  refine am_ek_none ?_
  show (bif Nat.blt pc 52 then am_cr25 pc else none) = none
  exact am_blt_f q _ _
set_option maxRecDepth 100000 in
theorem am_k26_0 : ((List.range 48).map (fun i => am_ek 26 (i + 0))).all id = true := by decide +kernel
set_option maxRecDepth 100000 in
theorem am_k26_1 : ((List.range 15).map (fun i => am_ek 26 (i + 48))).all id = true := by decide +kernel
theorem am_ky26 (pc : Nat) : am_ek 26 pc = true := by
  rcases Nat.lt_or_ge pc 48 with q | q
  · exact am_ek_u am_k26_0 (by omega) (by omega)
  rcases Nat.lt_or_ge pc 63 with q | q
  · exact am_ek_u am_k26_1 (by omega) (by omega)
  refine am_ek_none ?_
  show (bif Nat.blt pc 63 then am_cr26 pc else none) = none
  exact am_blt_f q _ _
set_option maxRecDepth 100000 in
theorem am_k27_0 : ((List.range 48).map (fun i => am_ek 27 (i + 0))).all id = true := by decide +kernel
set_option maxRecDepth 100000 in
theorem am_k27_1 : ((List.range 29).map (fun i => am_ek 27 (i + 48))).all id = true := by decide +kernel
theorem am_ky27 (pc : Nat) : am_ek 27 pc = true := by
  rcases Nat.lt_or_ge pc 48 with q | q
  · exact am_ek_u am_k27_0 (by omega) (by omega)
  rcases Nat.lt_or_ge pc 77 with q | q
  · exact am_ek_u am_k27_1 (by omega) (by omega)
  refine am_ek_none ?_
  show (bif Nat.blt pc 77 then am_cr27 pc else none) = none
  exact am_blt_f q _ _
set_option maxRecDepth 100000 in
theorem am_k28_0 : ((List.range 48).map (fun i => am_ek 28 (i + 0))).all id = true := by decide +kernel
set_option maxRecDepth 100000 in
theorem am_k28_1 : ((List.range 48).map (fun i => am_ek 28 (i + 48))).all id = true := by decide +kernel
set_option maxRecDepth 100000 in
theorem am_k28_2 : ((List.range 48).map (fun i => am_ek 28 (i + 96))).all id = true := by decide +kernel
set_option maxRecDepth 100000 in
theorem am_k28_3 : ((List.range 37).map (fun i => am_ek 28 (i + 144))).all id = true := by decide +kernel
theorem am_ky28 (pc : Nat) : am_ek 28 pc = true := by
  rcases Nat.lt_or_ge pc 48 with q | q
  · exact am_ek_u am_k28_0 (by omega) (by omega)
  rcases Nat.lt_or_ge pc 96 with q | q
  · exact am_ek_u am_k28_1 (by omega) (by omega)
  rcases Nat.lt_or_ge pc 144 with q | q
  · exact am_ek_u am_k28_2 (by omega) (by omega)
  rcases Nat.lt_or_ge pc 181 with q | q
  · exact am_ek_u am_k28_3 (by omega) (by omega)
  refine am_ek_none ?_
  show (bif Nat.blt pc 181 then am_cr28 pc else none) = none
  exact am_blt_f q _ _
set_option maxRecDepth 100000 in
theorem am_k29_0 : ((List.range 48).map (fun i => am_ek 29 (i + 0))).all id = true := by decide +kernel
set_option maxRecDepth 100000 in
theorem am_k29_1 : ((List.range 48).map (fun i => am_ek 29 (i + 48))).all id = true := by decide +kernel
set_option maxRecDepth 100000 in
theorem am_k29_2 : ((List.range 48).map (fun i => am_ek 29 (i + 96))).all id = true := by decide +kernel
set_option maxRecDepth 100000 in
theorem am_k29_3 : ((List.range 48).map (fun i => am_ek 29 (i + 144))).all id = true := by decide +kernel
set_option maxRecDepth 100000 in
theorem am_k29_4 : ((List.range 48).map (fun i => am_ek 29 (i + 192))).all id = true := by decide +kernel
set_option maxRecDepth 100000 in
theorem am_k29_5 : ((List.range 3).map (fun i => am_ek 29 (i + 240))).all id = true := by decide +kernel
theorem am_ky29 (pc : Nat) : am_ek 29 pc = true := by
  rcases Nat.lt_or_ge pc 48 with q | q
  · exact am_ek_u am_k29_0 (by omega) (by omega)
  rcases Nat.lt_or_ge pc 96 with q | q
  · exact am_ek_u am_k29_1 (by omega) (by omega)
  rcases Nat.lt_or_ge pc 144 with q | q
  · exact am_ek_u am_k29_2 (by omega) (by omega)
  rcases Nat.lt_or_ge pc 192 with q | q
  · exact am_ek_u am_k29_3 (by omega) (by omega)
  rcases Nat.lt_or_ge pc 240 with q | q
  · exact am_ek_u am_k29_4 (by omega) (by omega)
  rcases Nat.lt_or_ge pc 243 with q | q
  · exact am_ek_u am_k29_5 (by omega) (by omega)
  refine am_ek_none ?_
  show (bif Nat.blt pc 243 then am_cr29 pc else none) = none
  exact am_blt_f q _ _
set_option maxRecDepth 100000 in
theorem am_k30_0 : ((List.range 47).map (fun i => am_ek 30 (i + 0))).all id = true := by decide +kernel
theorem am_ky30 (pc : Nat) : am_ek 30 pc = true := by
  rcases Nat.lt_or_ge pc 47 with q | q
  · exact am_ek_u am_k30_0 (by omega) (by omega)
  refine am_ek_none ?_
  show (bif Nat.blt pc 47 then am_cr30 pc else none) = none
  exact am_blt_f q _ _
set_option maxRecDepth 100000 in
theorem am_k31_0 : ((List.range 48).map (fun i => am_ek 31 (i + 0))).all id = true := by decide +kernel
set_option maxRecDepth 100000 in
theorem am_k31_1 : ((List.range 1).map (fun i => am_ek 31 (i + 48))).all id = true := by decide +kernel
theorem am_ky31 (pc : Nat) : am_ek 31 pc = true := by
  rcases Nat.lt_or_ge pc 48 with q | q
  · exact am_ek_u am_k31_0 (by omega) (by omega)
  rcases Nat.lt_or_ge pc 49 with q | q
  · exact am_ek_u am_k31_1 (by omega) (by omega)
  refine am_ek_none ?_
  show (bif Nat.blt pc 49 then am_cr31 pc else none) = none
  exact am_blt_f q _ _
set_option maxRecDepth 100000 in
theorem am_k32_0 : ((List.range 18).map (fun i => am_ek 32 (i + 0))).all id = true := by decide +kernel
theorem am_ky32 (pc : Nat) : am_ek 32 pc = true := by
  rcases Nat.lt_or_ge pc 18 with q | q
  · exact am_ek_u am_k32_0 (by omega) (by omega)
  refine am_ek_none ?_
  show (bif Nat.blt pc 18 then am_cr32 pc else none) = none
  exact am_blt_f q _ _
set_option maxRecDepth 100000 in
theorem am_k33_0 : ((List.range 16).map (fun i => am_ek 33 (i + 0))).all id = true := by decide +kernel
theorem am_ky33 (pc : Nat) : am_ek 33 pc = true := by
  rcases Nat.lt_or_ge pc 16 with q | q
  · exact am_ek_u am_k33_0 (by omega) (by omega)
  refine am_ek_none ?_
  show (bif Nat.blt pc 16 then am_cr33 pc else none) = none
  exact am_blt_f q _ _
set_option maxRecDepth 100000 in
theorem am_k34_0 : ((List.range 48).map (fun i => am_ek 34 (i + 0))).all id = true := by decide +kernel
set_option maxRecDepth 100000 in
theorem am_k34_1 : ((List.range 2).map (fun i => am_ek 34 (i + 48))).all id = true := by decide +kernel
theorem am_ky34 (pc : Nat) : am_ek 34 pc = true := by
  rcases Nat.lt_or_ge pc 48 with q | q
  · exact am_ek_u am_k34_0 (by omega) (by omega)
  rcases Nat.lt_or_ge pc 50 with q | q
  · exact am_ek_u am_k34_1 (by omega) (by omega)
  refine am_ek_none ?_
  show (bif Nat.blt pc 50 then am_cr34 pc else none) = none
  exact am_blt_f q _ _
set_option maxRecDepth 100000 in
theorem am_k35_0 : ((List.range 18).map (fun i => am_ek 35 (i + 0))).all id = true := by decide +kernel
theorem am_ky35 (pc : Nat) : am_ek 35 pc = true := by
  rcases Nat.lt_or_ge pc 18 with q | q
  · exact am_ek_u am_k35_0 (by omega) (by omega)
  refine am_ek_none ?_
  show (bif Nat.blt pc 18 then am_cr35 pc else none) = none
  exact am_blt_f q _ _
set_option maxRecDepth 100000 in
theorem am_k36_0 : ((List.range 48).map (fun i => am_ek 36 (i + 0))).all id = true := by decide +kernel
set_option maxRecDepth 100000 in
theorem am_k36_1 : ((List.range 13).map (fun i => am_ek 36 (i + 48))).all id = true := by decide +kernel
theorem am_ky36 (pc : Nat) : am_ek 36 pc = true := by
  rcases Nat.lt_or_ge pc 48 with q | q
  · exact am_ek_u am_k36_0 (by omega) (by omega)
  rcases Nat.lt_or_ge pc 61 with q | q
  · exact am_ek_u am_k36_1 (by omega) (by omega)
  refine am_ek_none ?_
  show (bif Nat.blt pc 61 then am_cr36 pc else none) = none
  exact am_blt_f q _ _
set_option maxRecDepth 100000 in
theorem am_k37_0 : ((List.range 38).map (fun i => am_ek 37 (i + 0))).all id = true := by decide +kernel
theorem am_ky37 (pc : Nat) : am_ek 37 pc = true := by
  rcases Nat.lt_or_ge pc 38 with q | q
  · exact am_ek_u am_k37_0 (by omega) (by omega)
  refine am_ek_none ?_
  show (bif Nat.blt pc 38 then am_cr37 pc else none) = none
  exact am_blt_f q _ _
set_option maxRecDepth 100000 in
theorem am_k38_0 : ((List.range 48).map (fun i => am_ek 38 (i + 0))).all id = true := by decide +kernel
set_option maxRecDepth 100000 in
theorem am_k38_1 : ((List.range 2).map (fun i => am_ek 38 (i + 48))).all id = true := by decide +kernel
theorem am_ky38 (pc : Nat) : am_ek 38 pc = true := by
  rcases Nat.lt_or_ge pc 48 with q | q
  · exact am_ek_u am_k38_0 (by omega) (by omega)
  rcases Nat.lt_or_ge pc 50 with q | q
  · exact am_ek_u am_k38_1 (by omega) (by omega)
  refine am_ek_none ?_
  show (bif Nat.blt pc 50 then am_cr38 pc else none) = none
  exact am_blt_f q _ _
set_option maxRecDepth 100000 in
theorem am_k39_0 : ((List.range 48).map (fun i => am_ek 39 (i + 0))).all id = true := by decide +kernel
theorem am_ky39 (pc : Nat) : am_ek 39 pc = true := by
  rcases Nat.lt_or_ge pc 48 with q | q
  · exact am_ek_u am_k39_0 (by omega) (by omega)
  refine am_ek_none ?_
  show (bif Nat.blt pc 48 then am_cr39 pc else none) = none
  exact am_blt_f q _ _
set_option maxRecDepth 100000 in
theorem am_k40_0 : ((List.range 16).map (fun i => am_ek 40 (i + 0))).all id = true := by decide +kernel
theorem am_ky40 (pc : Nat) : am_ek 40 pc = true := by
  rcases Nat.lt_or_ge pc 16 with q | q
  · exact am_ek_u am_k40_0 (by omega) (by omega)
  refine am_ek_none ?_
  show (bif Nat.blt pc 16 then am_cr40 pc else none) = none
  exact am_blt_f q _ _
set_option maxRecDepth 100000 in
theorem am_k41_0 : ((List.range 48).map (fun i => am_ek 41 (i + 0))).all id = true := by decide +kernel
set_option maxRecDepth 100000 in
theorem am_k41_1 : ((List.range 48).map (fun i => am_ek 41 (i + 48))).all id = true := by decide +kernel
set_option maxRecDepth 100000 in
theorem am_k41_2 : ((List.range 9).map (fun i => am_ek 41 (i + 96))).all id = true := by decide +kernel
theorem am_ky41 (pc : Nat) : am_ek 41 pc = true := by
  rcases Nat.lt_or_ge pc 48 with q | q
  · exact am_ek_u am_k41_0 (by omega) (by omega)
  rcases Nat.lt_or_ge pc 96 with q | q
  · exact am_ek_u am_k41_1 (by omega) (by omega)
  rcases Nat.lt_or_ge pc 105 with q | q
  · exact am_ek_u am_k41_2 (by omega) (by omega)
  refine am_ek_none ?_
  show (bif Nat.blt pc 105 then am_cr41 pc else none) = none
  exact am_blt_f q _ _
set_option maxRecDepth 100000 in
theorem am_k42_0 : ((List.range 48).map (fun i => am_ek 42 (i + 0))).all id = true := by decide +kernel
set_option maxRecDepth 100000 in
theorem am_k42_1 : ((List.range 48).map (fun i => am_ek 42 (i + 48))).all id = true := by decide +kernel
set_option maxRecDepth 100000 in
theorem am_k42_2 : ((List.range 2).map (fun i => am_ek 42 (i + 96))).all id = true := by decide +kernel
theorem am_ky42 (pc : Nat) : am_ek 42 pc = true := by
  rcases Nat.lt_or_ge pc 48 with q | q
  · exact am_ek_u am_k42_0 (by omega) (by omega)
  rcases Nat.lt_or_ge pc 96 with q | q
  · exact am_ek_u am_k42_1 (by omega) (by omega)
  rcases Nat.lt_or_ge pc 98 with q | q
  · exact am_ek_u am_k42_2 (by omega) (by omega)
  refine am_ek_none ?_
  show (bif Nat.blt pc 98 then am_cr42 pc else none) = none
  exact am_blt_f q _ _
set_option maxRecDepth 100000 in
theorem am_k43_0 : ((List.range 16).map (fun i => am_ek 43 (i + 0))).all id = true := by decide +kernel
theorem am_ky43 (pc : Nat) : am_ek 43 pc = true := by
  rcases Nat.lt_or_ge pc 16 with q | q
  · exact am_ek_u am_k43_0 (by omega) (by omega)
  refine am_ek_none ?_
  show (bif Nat.blt pc 16 then am_cr43 pc else none) = none
  exact am_blt_f q _ _
set_option maxRecDepth 100000 in
theorem am_k44_0 : ((List.range 41).map (fun i => am_ek 44 (i + 0))).all id = true := by decide +kernel
theorem am_ky44 (pc : Nat) : am_ek 44 pc = true := by
  rcases Nat.lt_or_ge pc 41 with q | q
  · exact am_ek_u am_k44_0 (by omega) (by omega)
  refine am_ek_none ?_
  show (bif Nat.blt pc 41 then am_cr44 pc else none) = none
  exact am_blt_f q _ _
set_option maxRecDepth 100000 in
theorem am_k45_0 : ((List.range 24).map (fun i => am_ek 45 (i + 0))).all id = true := by decide +kernel
theorem am_ky45 (pc : Nat) : am_ek 45 pc = true := by
  rcases Nat.lt_or_ge pc 24 with q | q
  · exact am_ek_u am_k45_0 (by omega) (by omega)
  refine am_ek_none ?_
  show (bif Nat.blt pc 24 then am_cr45 pc else none) = none
  exact am_blt_f q _ _
set_option maxRecDepth 100000 in
theorem am_k46_0 : ((List.range 48).map (fun i => am_ek 46 (i + 0))).all id = true := by decide +kernel
set_option maxRecDepth 100000 in
theorem am_k46_1 : ((List.range 48).map (fun i => am_ek 46 (i + 48))).all id = true := by decide +kernel
set_option maxRecDepth 100000 in
theorem am_k46_2 : ((List.range 48).map (fun i => am_ek 46 (i + 96))).all id = true := by decide +kernel
set_option maxRecDepth 100000 in
theorem am_k46_3 : ((List.range 34).map (fun i => am_ek 46 (i + 144))).all id = true := by decide +kernel
theorem am_ky46 (pc : Nat) : am_ek 46 pc = true := by
  rcases Nat.lt_or_ge pc 48 with q | q
  · exact am_ek_u am_k46_0 (by omega) (by omega)
  rcases Nat.lt_or_ge pc 96 with q | q
  · exact am_ek_u am_k46_1 (by omega) (by omega)
  rcases Nat.lt_or_ge pc 144 with q | q
  · exact am_ek_u am_k46_2 (by omega) (by omega)
  rcases Nat.lt_or_ge pc 178 with q | q
  · exact am_ek_u am_k46_3 (by omega) (by omega)
  refine am_ek_none ?_
  show (bif Nat.blt pc 178 then am_cr46 pc else none) = none
  exact am_blt_f q _ _
set_option maxRecDepth 100000 in
theorem am_k47_0 : ((List.range 15).map (fun i => am_ek 47 (i + 0))).all id = true := by decide +kernel
theorem am_ky47 (pc : Nat) : am_ek 47 pc = true := by
  rcases Nat.lt_or_ge pc 15 with q | q
  · exact am_ek_u am_k47_0 (by omega) (by omega)
  refine am_ek_none ?_
  show (bif Nat.blt pc 15 then am_cr47 pc else none) = none
  exact am_blt_f q _ _
set_option maxRecDepth 100000 in
theorem am_k48_0 : ((List.range 22).map (fun i => am_ek 48 (i + 0))).all id = true := by decide +kernel
theorem am_ky48 (pc : Nat) : am_ek 48 pc = true := by
  rcases Nat.lt_or_ge pc 22 with q | q
  · exact am_ek_u am_k48_0 (by omega) (by omega)
  refine am_ek_none ?_
  show (bif Nat.blt pc 22 then am_cr48 pc else none) = none
  exact am_blt_f q _ _
set_option maxRecDepth 100000 in
theorem am_k49_0 : ((List.range 48).map (fun i => am_ek 49 (i + 0))).all id = true := by decide +kernel
set_option maxRecDepth 100000 in
theorem am_k49_1 : ((List.range 18).map (fun i => am_ek 49 (i + 48))).all id = true := by decide +kernel
theorem am_ky49 (pc : Nat) : am_ek 49 pc = true := by
  rcases Nat.lt_or_ge pc 48 with q | q
  · exact am_ek_u am_k49_0 (by omega) (by omega)
  rcases Nat.lt_or_ge pc 66 with q | q
  · exact am_ek_u am_k49_1 (by omega) (by omega)
  refine am_ek_none ?_
  show (bif Nat.blt pc 66 then am_cr49 pc else none) = none
  exact am_blt_f q _ _
set_option maxRecDepth 100000 in
theorem am_k50_0 : ((List.range 48).map (fun i => am_ek 50 (i + 0))).all id = true := by decide +kernel
set_option maxRecDepth 100000 in
theorem am_k50_1 : ((List.range 48).map (fun i => am_ek 50 (i + 48))).all id = true := by decide +kernel
set_option maxRecDepth 100000 in
theorem am_k50_2 : ((List.range 17).map (fun i => am_ek 50 (i + 96))).all id = true := by decide +kernel
theorem am_ky50 (pc : Nat) : am_ek 50 pc = true := by
  rcases Nat.lt_or_ge pc 48 with q | q
  · exact am_ek_u am_k50_0 (by omega) (by omega)
  rcases Nat.lt_or_ge pc 96 with q | q
  · exact am_ek_u am_k50_1 (by omega) (by omega)
  rcases Nat.lt_or_ge pc 113 with q | q
  · exact am_ek_u am_k50_2 (by omega) (by omega)
  refine am_ek_none ?_
  show (bif Nat.blt pc 113 then am_cr50 pc else none) = none
  exact am_blt_f q _ _
set_option maxRecDepth 100000 in
theorem am_k51_0 : ((List.range 24).map (fun i => am_ek 51 (i + 0))).all id = true := by decide +kernel
theorem am_ky51 (pc : Nat) : am_ek 51 pc = true := by
  rcases Nat.lt_or_ge pc 24 with q | q
  · exact am_ek_u am_k51_0 (by omega) (by omega)
  refine am_ek_none ?_
  show (bif Nat.blt pc 24 then am_cr51 pc else none) = none
  exact am_blt_f q _ _
set_option maxRecDepth 100000 in
theorem am_k52_0 : ((List.range 48).map (fun i => am_ek 52 (i + 0))).all id = true := by decide +kernel
set_option maxRecDepth 100000 in
theorem am_k52_1 : ((List.range 48).map (fun i => am_ek 52 (i + 48))).all id = true := by decide +kernel
set_option maxRecDepth 100000 in
theorem am_k52_2 : ((List.range 37).map (fun i => am_ek 52 (i + 96))).all id = true := by decide +kernel
theorem am_ky52 (pc : Nat) : am_ek 52 pc = true := by
  rcases Nat.lt_or_ge pc 48 with q | q
  · exact am_ek_u am_k52_0 (by omega) (by omega)
  rcases Nat.lt_or_ge pc 96 with q | q
  · exact am_ek_u am_k52_1 (by omega) (by omega)
  rcases Nat.lt_or_ge pc 133 with q | q
  · exact am_ek_u am_k52_2 (by omega) (by omega)
  refine am_ek_none ?_
  show (bif Nat.blt pc 133 then am_cr52 pc else none) = none
  exact am_blt_f q _ _
set_option maxRecDepth 100000 in
theorem am_k53_0 : ((List.range 18).map (fun i => am_ek 53 (i + 0))).all id = true := by decide +kernel
theorem am_ky53 (pc : Nat) : am_ek 53 pc = true := by
  rcases Nat.lt_or_ge pc 18 with q | q
  · exact am_ek_u am_k53_0 (by omega) (by omega)
  refine am_ek_none ?_
  show (bif Nat.blt pc 18 then am_cr53 pc else none) = none
  exact am_blt_f q _ _
set_option maxRecDepth 100000 in
theorem am_k54_0 : ((List.range 32).map (fun i => am_ek 54 (i + 0))).all id = true := by decide +kernel
theorem am_ky54 (pc : Nat) : am_ek 54 pc = true := by
  rcases Nat.lt_or_ge pc 32 with q | q
  · exact am_ek_u am_k54_0 (by omega) (by omega)
  refine am_ek_none ?_
  show (bif Nat.blt pc 32 then am_cr54 pc else none) = none
  exact am_blt_f q _ _
set_option maxRecDepth 100000 in
theorem am_k55_0 : ((List.range 36).map (fun i => am_ek 55 (i + 0))).all id = true := by decide +kernel
theorem am_ky55 (pc : Nat) : am_ek 55 pc = true := by
  rcases Nat.lt_or_ge pc 36 with q | q
  · exact am_ek_u am_k55_0 (by omega) (by omega)
  refine am_ek_none ?_
  show (bif Nat.blt pc 36 then am_cr55 pc else none) = none
  exact am_blt_f q _ _
set_option maxRecDepth 100000 in
theorem am_k56_0 : ((List.range 48).map (fun i => am_ek 56 (i + 0))).all id = true := by decide +kernel
set_option maxRecDepth 100000 in
theorem am_k56_1 : ((List.range 29).map (fun i => am_ek 56 (i + 48))).all id = true := by decide +kernel
theorem am_ky56 (pc : Nat) : am_ek 56 pc = true := by
  rcases Nat.lt_or_ge pc 48 with q | q
  · exact am_ek_u am_k56_0 (by omega) (by omega)
  rcases Nat.lt_or_ge pc 77 with q | q
  · exact am_ek_u am_k56_1 (by omega) (by omega)
  refine am_ek_none ?_
  show (bif Nat.blt pc 77 then am_cr56 pc else none) = none
  exact am_blt_f q _ _
set_option maxRecDepth 100000 in
theorem am_k57_0 : ((List.range 48).map (fun i => am_ek 57 (i + 0))).all id = true := by decide +kernel
set_option maxRecDepth 100000 in
theorem am_k57_1 : ((List.range 18).map (fun i => am_ek 57 (i + 48))).all id = true := by decide +kernel
theorem am_ky57 (pc : Nat) : am_ek 57 pc = true := by
  rcases Nat.lt_or_ge pc 48 with q | q
  · exact am_ek_u am_k57_0 (by omega) (by omega)
  rcases Nat.lt_or_ge pc 66 with q | q
  · exact am_ek_u am_k57_1 (by omega) (by omega)
  refine am_ek_none ?_
  show (bif Nat.blt pc 66 then am_cr57 pc else none) = none
  exact am_blt_f q _ _
set_option maxRecDepth 100000 in
theorem am_k58_0 : ((List.range 48).map (fun i => am_ek 58 (i + 0))).all id = true := by decide +kernel
set_option maxRecDepth 100000 in
theorem am_k58_1 : ((List.range 2).map (fun i => am_ek 58 (i + 48))).all id = true := by decide +kernel
theorem am_ky58 (pc : Nat) : am_ek 58 pc = true := by
  rcases Nat.lt_or_ge pc 48 with q | q
  · exact am_ek_u am_k58_0 (by omega) (by omega)
  rcases Nat.lt_or_ge pc 50 with q | q
  · exact am_ek_u am_k58_1 (by omega) (by omega)
  refine am_ek_none ?_
  show (bif Nat.blt pc 50 then am_cr58 pc else none) = none
  exact am_blt_f q _ _
set_option maxRecDepth 100000 in
theorem am_k59_0 : ((List.range 48).map (fun i => am_ek 59 (i + 0))).all id = true := by decide +kernel
set_option maxRecDepth 100000 in
theorem am_k59_1 : ((List.range 29).map (fun i => am_ek 59 (i + 48))).all id = true := by decide +kernel
theorem am_ky59 (pc : Nat) : am_ek 59 pc = true := by
  rcases Nat.lt_or_ge pc 48 with q | q
  · exact am_ek_u am_k59_0 (by omega) (by omega)
  rcases Nat.lt_or_ge pc 77 with q | q
  · exact am_ek_u am_k59_1 (by omega) (by omega)
  refine am_ek_none ?_
  show (bif Nat.blt pc 77 then am_cr59 pc else none) = none
  exact am_blt_f q _ _
set_option maxRecDepth 100000 in
theorem am_k60_0 : ((List.range 18).map (fun i => am_ek 60 (i + 0))).all id = true := by decide +kernel
theorem am_ky60 (pc : Nat) : am_ek 60 pc = true := by
  rcases Nat.lt_or_ge pc 18 with q | q
  · exact am_ek_u am_k60_0 (by omega) (by omega)
  refine am_ek_none ?_
  show (bif Nat.blt pc 18 then am_cr60 pc else none) = none
  exact am_blt_f q _ _
set_option maxRecDepth 100000 in
theorem am_k61_0 : ((List.range 19).map (fun i => am_ek 61 (i + 0))).all id = true := by decide +kernel
theorem am_ky61 (pc : Nat) : am_ek 61 pc = true := by
  rcases Nat.lt_or_ge pc 19 with q | q
  · exact am_ek_u am_k61_0 (by omega) (by omega)
  refine am_ek_none ?_
  show (bif Nat.blt pc 19 then am_cr61 pc else none) = none
  exact am_blt_f q _ _
set_option maxRecDepth 100000 in
theorem am_k62_0 : ((List.range 48).map (fun i => am_ek 62 (i + 0))).all id = true := by decide +kernel
set_option maxRecDepth 100000 in
theorem am_k62_1 : ((List.range 1).map (fun i => am_ek 62 (i + 48))).all id = true := by decide +kernel
theorem am_ky62 (pc : Nat) : am_ek 62 pc = true := by
  rcases Nat.lt_or_ge pc 48 with q | q
  · exact am_ek_u am_k62_0 (by omega) (by omega)
  rcases Nat.lt_or_ge pc 49 with q | q
  · exact am_ek_u am_k62_1 (by omega) (by omega)
  refine am_ek_none ?_
  show (bif Nat.blt pc 49 then am_cr62 pc else none) = none
  exact am_blt_f q _ _
set_option maxRecDepth 100000 in
theorem am_k63_0 : ((List.range 48).map (fun i => am_ek 63 (i + 0))).all id = true := by decide +kernel
set_option maxRecDepth 100000 in
theorem am_k63_1 : ((List.range 44).map (fun i => am_ek 63 (i + 48))).all id = true := by decide +kernel
theorem am_ky63 (pc : Nat) : am_ek 63 pc = true := by
  rcases Nat.lt_or_ge pc 48 with q | q
  · exact am_ek_u am_k63_0 (by omega) (by omega)
  rcases Nat.lt_or_ge pc 92 with q | q
  · exact am_ek_u am_k63_1 (by omega) (by omega)
  refine am_ek_none ?_
  show (bif Nat.blt pc 92 then am_cr63 pc else none) = none
  exact am_blt_f q _ _
set_option maxRecDepth 100000 in
theorem am_k64_0 : ((List.range 48).map (fun i => am_ek 64 (i + 0))).all id = true := by decide +kernel
set_option maxRecDepth 100000 in
theorem am_k64_1 : ((List.range 48).map (fun i => am_ek 64 (i + 48))).all id = true := by decide +kernel
set_option maxRecDepth 100000 in
theorem am_k64_2 : ((List.range 37).map (fun i => am_ek 64 (i + 96))).all id = true := by decide +kernel
theorem am_ky64 (pc : Nat) : am_ek 64 pc = true := by
  rcases Nat.lt_or_ge pc 48 with q | q
  · exact am_ek_u am_k64_0 (by omega) (by omega)
  rcases Nat.lt_or_ge pc 96 with q | q
  · exact am_ek_u am_k64_1 (by omega) (by omega)
  rcases Nat.lt_or_ge pc 133 with q | q
  · exact am_ek_u am_k64_2 (by omega) (by omega)
  refine am_ek_none ?_
  show (bif Nat.blt pc 133 then am_cr64 pc else none) = none
  exact am_blt_f q _ _
set_option maxRecDepth 100000 in
theorem am_k65_0 : ((List.range 32).map (fun i => am_ek 65 (i + 0))).all id = true := by decide +kernel
theorem am_ky65 (pc : Nat) : am_ek 65 pc = true := by
  rcases Nat.lt_or_ge pc 32 with q | q
  · exact am_ek_u am_k65_0 (by omega) (by omega)
  refine am_ek_none ?_
  show (bif Nat.blt pc 32 then am_cr65 pc else none) = none
  exact am_blt_f q _ _
set_option maxRecDepth 100000 in
theorem am_k66_0 : ((List.range 26).map (fun i => am_ek 66 (i + 0))).all id = true := by decide +kernel
theorem am_ky66 (pc : Nat) : am_ek 66 pc = true := by
  rcases Nat.lt_or_ge pc 26 with q | q
  · exact am_ek_u am_k66_0 (by omega) (by omega)
  refine am_ek_none ?_
  show (bif Nat.blt pc 26 then am_cr66 pc else none) = none
  exact am_blt_f q _ _
set_option maxRecDepth 100000 in
theorem am_k67_0 : ((List.range 48).map (fun i => am_ek 67 (i + 0))).all id = true := by decide +kernel
set_option maxRecDepth 100000 in
theorem am_k67_1 : ((List.range 48).map (fun i => am_ek 67 (i + 48))).all id = true := by decide +kernel
set_option maxRecDepth 100000 in
theorem am_k67_2 : ((List.range 17).map (fun i => am_ek 67 (i + 96))).all id = true := by decide +kernel
theorem am_ky67 (pc : Nat) : am_ek 67 pc = true := by
  rcases Nat.lt_or_ge pc 48 with q | q
  · exact am_ek_u am_k67_0 (by omega) (by omega)
  rcases Nat.lt_or_ge pc 96 with q | q
  · exact am_ek_u am_k67_1 (by omega) (by omega)
  rcases Nat.lt_or_ge pc 113 with q | q
  · exact am_ek_u am_k67_2 (by omega) (by omega)
  refine am_ek_none ?_
  show (bif Nat.blt pc 113 then am_cr67 pc else none) = none
  exact am_blt_f q _ _
set_option maxRecDepth 100000 in
theorem am_k68_0 : ((List.range 48).map (fun i => am_ek 68 (i + 0))).all id = true := by decide +kernel
set_option maxRecDepth 100000 in
theorem am_k68_1 : ((List.range 48).map (fun i => am_ek 68 (i + 48))).all id = true := by decide +kernel
set_option maxRecDepth 100000 in
theorem am_k68_2 : ((List.range 48).map (fun i => am_ek 68 (i + 96))).all id = true := by decide +kernel
set_option maxRecDepth 100000 in
theorem am_k68_3 : ((List.range 11).map (fun i => am_ek 68 (i + 144))).all id = true := by decide +kernel
theorem am_ky68 (pc : Nat) : am_ek 68 pc = true := by
  rcases Nat.lt_or_ge pc 48 with q | q
  · exact am_ek_u am_k68_0 (by omega) (by omega)
  rcases Nat.lt_or_ge pc 96 with q | q
  · exact am_ek_u am_k68_1 (by omega) (by omega)
  rcases Nat.lt_or_ge pc 144 with q | q
  · exact am_ek_u am_k68_2 (by omega) (by omega)
  rcases Nat.lt_or_ge pc 155 with q | q
  · exact am_ek_u am_k68_3 (by omega) (by omega)
  refine am_ek_none ?_
  show (bif Nat.blt pc 155 then am_cr68 pc else none) = none
  exact am_blt_f q _ _
set_option maxRecDepth 100000 in
theorem am_k69_0 : ((List.range 42).map (fun i => am_ek 69 (i + 0))).all id = true := by decide +kernel
theorem am_ky69 (pc : Nat) : am_ek 69 pc = true := by
  rcases Nat.lt_or_ge pc 42 with q | q
  · exact am_ek_u am_k69_0 (by omega) (by omega)
  refine am_ek_none ?_
  show (bif Nat.blt pc 42 then am_cr69 pc else none) = none
  exact am_blt_f q _ _
set_option maxRecDepth 100000 in
theorem am_k70_0 : ((List.range 39).map (fun i => am_ek 70 (i + 0))).all id = true := by decide +kernel
theorem am_ky70 (pc : Nat) : am_ek 70 pc = true := by
  rcases Nat.lt_or_ge pc 39 with q | q
  · exact am_ek_u am_k70_0 (by omega) (by omega)
  refine am_ek_none ?_
  show (bif Nat.blt pc 39 then am_cr70 pc else none) = none
  exact am_blt_f q _ _
set_option maxRecDepth 100000 in
theorem am_k71_0 : ((List.range 29).map (fun i => am_ek 71 (i + 0))).all id = true := by decide +kernel
theorem am_ky71 (pc : Nat) : am_ek 71 pc = true := by
  rcases Nat.lt_or_ge pc 29 with q | q
  · exact am_ek_u am_k71_0 (by omega) (by omega)
  refine am_ek_none ?_
  show (bif Nat.blt pc 29 then am_cr71 pc else none) = none
  exact am_blt_f q _ _
set_option maxRecDepth 100000 in
theorem am_k72_0 : ((List.range 19).map (fun i => am_ek 72 (i + 0))).all id = true := by decide +kernel
theorem am_ky72 (pc : Nat) : am_ek 72 pc = true := by
  rcases Nat.lt_or_ge pc 19 with q | q
  · exact am_ek_u am_k72_0 (by omega) (by omega)
  refine am_ek_none ?_
  show (bif Nat.blt pc 19 then am_cr72 pc else none) = none
  exact am_blt_f q _ _
set_option maxRecDepth 100000 in
theorem am_k73_0 : ((List.range 48).map (fun i => am_ek 73 (i + 0))).all id = true := by decide +kernel
set_option maxRecDepth 100000 in
theorem am_k73_1 : ((List.range 22).map (fun i => am_ek 73 (i + 48))).all id = true := by decide +kernel
theorem am_ky73 (pc : Nat) : am_ek 73 pc = true := by
  rcases Nat.lt_or_ge pc 48 with q | q
  · exact am_ek_u am_k73_0 (by omega) (by omega)
  rcases Nat.lt_or_ge pc 70 with q | q
  · exact am_ek_u am_k73_1 (by omega) (by omega)
  refine am_ek_none ?_
  show (bif Nat.blt pc 70 then am_cr73 pc else none) = none
  exact am_blt_f q _ _
set_option maxRecDepth 100000 in
theorem am_k74_0 : ((List.range 17).map (fun i => am_ek 74 (i + 0))).all id = true := by decide +kernel
theorem am_ky74 (pc : Nat) : am_ek 74 pc = true := by
  rcases Nat.lt_or_ge pc 17 with q | q
  · exact am_ek_u am_k74_0 (by omega) (by omega)
  refine am_ek_none ?_
  show (bif Nat.blt pc 17 then am_cr74 pc else none) = none
  exact am_blt_f q _ _
set_option maxRecDepth 100000 in
theorem am_k75_0 : ((List.range 48).map (fun i => am_ek 75 (i + 0))).all id = true := by decide +kernel
set_option maxRecDepth 100000 in
theorem am_k75_1 : ((List.range 23).map (fun i => am_ek 75 (i + 48))).all id = true := by decide +kernel
theorem am_ky75 (pc : Nat) : am_ek 75 pc = true := by
  rcases Nat.lt_or_ge pc 48 with q | q
  · exact am_ek_u am_k75_0 (by omega) (by omega)
  rcases Nat.lt_or_ge pc 71 with q | q
  · exact am_ek_u am_k75_1 (by omega) (by omega)
  refine am_ek_none ?_
  show (bif Nat.blt pc 71 then am_cr75 pc else none) = none
  exact am_blt_f q _ _
set_option maxRecDepth 100000 in
theorem am_k76_0 : ((List.range 18).map (fun i => am_ek 76 (i + 0))).all id = true := by decide +kernel
theorem am_ky76 (pc : Nat) : am_ek 76 pc = true := by
  rcases Nat.lt_or_ge pc 18 with q | q
  · exact am_ek_u am_k76_0 (by omega) (by omega)
  refine am_ek_none ?_
  show (bif Nat.blt pc 18 then am_cr76 pc else none) = none
  exact am_blt_f q _ _
set_option maxRecDepth 100000 in
theorem am_k77_0 : ((List.range 48).map (fun i => am_ek 77 (i + 0))).all id = true := by decide +kernel
set_option maxRecDepth 100000 in
theorem am_k77_1 : ((List.range 48).map (fun i => am_ek 77 (i + 48))).all id = true := by decide +kernel
set_option maxRecDepth 100000 in
theorem am_k77_2 : ((List.range 48).map (fun i => am_ek 77 (i + 96))).all id = true := by decide +kernel
set_option maxRecDepth 100000 in
theorem am_k77_3 : ((List.range 48).map (fun i => am_ek 77 (i + 144))).all id = true := by decide +kernel
set_option maxRecDepth 100000 in
theorem am_k77_4 : ((List.range 48).map (fun i => am_ek 77 (i + 192))).all id = true := by decide +kernel
set_option maxRecDepth 100000 in
theorem am_k77_5 : ((List.range 48).map (fun i => am_ek 77 (i + 240))).all id = true := by decide +kernel
set_option maxRecDepth 100000 in
theorem am_k77_6 : ((List.range 48).map (fun i => am_ek 77 (i + 288))).all id = true := by decide +kernel
set_option maxRecDepth 100000 in
theorem am_k77_7 : ((List.range 48).map (fun i => am_ek 77 (i + 336))).all id = true := by decide +kernel
set_option maxRecDepth 100000 in
theorem am_k77_8 : ((List.range 34).map (fun i => am_ek 77 (i + 384))).all id = true := by decide +kernel
theorem am_ky77 (pc : Nat) : am_ek 77 pc = true := by
  rcases Nat.lt_or_ge pc 48 with q | q
  · exact am_ek_u am_k77_0 (by omega) (by omega)
  rcases Nat.lt_or_ge pc 96 with q | q
  · exact am_ek_u am_k77_1 (by omega) (by omega)
  rcases Nat.lt_or_ge pc 144 with q | q
  · exact am_ek_u am_k77_2 (by omega) (by omega)
  rcases Nat.lt_or_ge pc 192 with q | q
  · exact am_ek_u am_k77_3 (by omega) (by omega)
  rcases Nat.lt_or_ge pc 240 with q | q
  · exact am_ek_u am_k77_4 (by omega) (by omega)
  rcases Nat.lt_or_ge pc 288 with q | q
  · exact am_ek_u am_k77_5 (by omega) (by omega)
  rcases Nat.lt_or_ge pc 336 with q | q
  · exact am_ek_u am_k77_6 (by omega) (by omega)
  rcases Nat.lt_or_ge pc 384 with q | q
  · exact am_ek_u am_k77_7 (by omega) (by omega)
  rcases Nat.lt_or_ge pc 418 with q | q
  · exact am_ek_u am_k77_8 (by omega) (by omega)
  refine am_ek_none ?_
  show (bif Nat.blt pc 418 then am_cr77 pc else none) = none
  exact am_blt_f q _ _
set_option maxRecDepth 100000 in
theorem am_k78_0 : ((List.range 48).map (fun i => am_ek 78 (i + 0))).all id = true := by decide +kernel
set_option maxRecDepth 100000 in
theorem am_k78_1 : ((List.range 20).map (fun i => am_ek 78 (i + 48))).all id = true := by decide +kernel
theorem am_ky78 (pc : Nat) : am_ek 78 pc = true := by
  rcases Nat.lt_or_ge pc 48 with q | q
  · exact am_ek_u am_k78_0 (by omega) (by omega)
  rcases Nat.lt_or_ge pc 68 with q | q
  · exact am_ek_u am_k78_1 (by omega) (by omega)
  refine am_ek_none ?_
  show (bif Nat.blt pc 68 then am_cr78 pc else none) = none
  exact am_blt_f q _ _
set_option maxRecDepth 100000 in
theorem am_k79_0 : ((List.range 48).map (fun i => am_ek 79 (i + 0))).all id = true := by decide +kernel
set_option maxRecDepth 100000 in
theorem am_k79_1 : ((List.range 6).map (fun i => am_ek 79 (i + 48))).all id = true := by decide +kernel
theorem am_ky79 (pc : Nat) : am_ek 79 pc = true := by
  rcases Nat.lt_or_ge pc 48 with q | q
  · exact am_ek_u am_k79_0 (by omega) (by omega)
  rcases Nat.lt_or_ge pc 54 with q | q
  · exact am_ek_u am_k79_1 (by omega) (by omega)
  refine am_ek_none ?_
  show (bif Nat.blt pc 54 then am_cr79 pc else none) = none
  exact am_blt_f q _ _
set_option maxRecDepth 100000 in
theorem am_k80_0 : ((List.range 48).map (fun i => am_ek 80 (i + 0))).all id = true := by decide +kernel
set_option maxRecDepth 100000 in
theorem am_k80_1 : ((List.range 20).map (fun i => am_ek 80 (i + 48))).all id = true := by decide +kernel
theorem am_ky80 (pc : Nat) : am_ek 80 pc = true := by
  rcases Nat.lt_or_ge pc 48 with q | q
  · exact am_ek_u am_k80_0 (by omega) (by omega)
  rcases Nat.lt_or_ge pc 68 with q | q
  · exact am_ek_u am_k80_1 (by omega) (by omega)
  refine am_ek_none ?_
  show (bif Nat.blt pc 68 then am_cr80 pc else none) = none
  exact am_blt_f q _ _
set_option maxRecDepth 100000 in
theorem am_k81_0 : ((List.range 48).map (fun i => am_ek 81 (i + 0))).all id = true := by decide +kernel
set_option maxRecDepth 100000 in
theorem am_k81_1 : ((List.range 5).map (fun i => am_ek 81 (i + 48))).all id = true := by decide +kernel
theorem am_ky81 (pc : Nat) : am_ek 81 pc = true := by
  rcases Nat.lt_or_ge pc 48 with q | q
  · exact am_ek_u am_k81_0 (by omega) (by omega)
  rcases Nat.lt_or_ge pc 53 with q | q
  · exact am_ek_u am_k81_1 (by omega) (by omega)
  refine am_ek_none ?_
  show (bif Nat.blt pc 53 then am_cr81 pc else none) = none
  exact am_blt_f q _ _
set_option maxRecDepth 100000 in
theorem am_k82_0 : ((List.range 48).map (fun i => am_ek 82 (i + 0))).all id = true := by decide +kernel
set_option maxRecDepth 100000 in
theorem am_k82_1 : ((List.range 48).map (fun i => am_ek 82 (i + 48))).all id = true := by decide +kernel
theorem am_ky82 (pc : Nat) : am_ek 82 pc = true := by
  rcases Nat.lt_or_ge pc 48 with q | q
  · exact am_ek_u am_k82_0 (by omega) (by omega)
  rcases Nat.lt_or_ge pc 96 with q | q
  · exact am_ek_u am_k82_1 (by omega) (by omega)
  refine am_ek_none ?_
  show (bif Nat.blt pc 96 then am_cr82 pc else none) = none
  exact am_blt_f q _ _
set_option maxRecDepth 100000 in
theorem am_k83_0 : ((List.range 9).map (fun i => am_ek 83 (i + 0))).all id = true := by decide +kernel
theorem am_ky83 (pc : Nat) : am_ek 83 pc = true := by
  rcases Nat.lt_or_ge pc 9 with q | q
  · exact am_ek_u am_k83_0 (by omega) (by omega)
  refine am_ek_none ?_
  show (bif Nat.blt pc 9 then am_cr83 pc else none) = none
  exact am_blt_f q _ _
set_option maxRecDepth 100000 in
theorem am_k84_0 : ((List.range 48).map (fun i => am_ek 84 (i + 0))).all id = true := by decide +kernel
set_option maxRecDepth 100000 in
theorem am_k84_1 : ((List.range 16).map (fun i => am_ek 84 (i + 48))).all id = true := by decide +kernel
theorem am_ky84 (pc : Nat) : am_ek 84 pc = true := by
  rcases Nat.lt_or_ge pc 48 with q | q
  · exact am_ek_u am_k84_0 (by omega) (by omega)
  rcases Nat.lt_or_ge pc 64 with q | q
  · exact am_ek_u am_k84_1 (by omega) (by omega)
  refine am_ek_none ?_
  show (bif Nat.blt pc 64 then am_cr84 pc else none) = none
  exact am_blt_f q _ _
set_option maxRecDepth 100000 in
theorem am_k85_0 : ((List.range 9).map (fun i => am_ek 85 (i + 0))).all id = true := by decide +kernel
theorem am_ky85 (pc : Nat) : am_ek 85 pc = true := by
  rcases Nat.lt_or_ge pc 9 with q | q
  · exact am_ek_u am_k85_0 (by omega) (by omega)
  refine am_ek_none ?_
  show (bif Nat.blt pc 9 then am_cr85 pc else none) = none
  exact am_blt_f q _ _
set_option maxRecDepth 100000 in
theorem am_k86_0 : ((List.range 10).map (fun i => am_ek 86 (i + 0))).all id = true := by decide +kernel
theorem am_ky86 (pc : Nat) : am_ek 86 pc = true := by
  rcases Nat.lt_or_ge pc 10 with q | q
  · exact am_ek_u am_k86_0 (by omega) (by omega)
  refine am_ek_none ?_
  show (bif Nat.blt pc 10 then am_cr86 pc else none) = none
  exact am_blt_f q _ _
set_option maxRecDepth 100000 in
theorem am_k87_0 : ((List.range 10).map (fun i => am_ek 87 (i + 0))).all id = true := by decide +kernel
theorem am_ky87 (pc : Nat) : am_ek 87 pc = true := by
  rcases Nat.lt_or_ge pc 10 with q | q
  · exact am_ek_u am_k87_0 (by omega) (by omega)
  refine am_ek_none ?_
  show (bif Nat.blt pc 10 then am_cr87 pc else none) = none
  exact am_blt_f q _ _
set_option maxRecDepth 100000 in
theorem am_k88_0 : ((List.range 21).map (fun i => am_ek 88 (i + 0))).all id = true := by decide +kernel
theorem am_ky88 (pc : Nat) : am_ek 88 pc = true := by
  rcases Nat.lt_or_ge pc 21 with q | q
  · exact am_ek_u am_k88_0 (by omega) (by omega)
  refine am_ek_none ?_
  show (bif Nat.blt pc 21 then am_cr88 pc else none) = none
  exact am_blt_f q _ _
set_option maxRecDepth 100000 in
theorem am_k89_0 : ((List.range 48).map (fun i => am_ek 89 (i + 0))).all id = true := by decide +kernel
set_option maxRecDepth 100000 in
theorem am_k89_1 : ((List.range 33).map (fun i => am_ek 89 (i + 48))).all id = true := by decide +kernel
theorem am_ky89 (pc : Nat) : am_ek 89 pc = true := by
  rcases Nat.lt_or_ge pc 48 with q | q
  · exact am_ek_u am_k89_0 (by omega) (by omega)
  rcases Nat.lt_or_ge pc 81 with q | q
  · exact am_ek_u am_k89_1 (by omega) (by omega)
  refine am_ek_none ?_
  show (bif Nat.blt pc 81 then am_cr89 pc else none) = none
  exact am_blt_f q _ _
set_option maxRecDepth 100000 in
theorem am_k90_0 : ((List.range 48).map (fun i => am_ek 90 (i + 0))).all id = true := by decide +kernel
set_option maxRecDepth 100000 in
theorem am_k90_1 : ((List.range 8).map (fun i => am_ek 90 (i + 48))).all id = true := by decide +kernel
theorem am_ky90 (pc : Nat) : am_ek 90 pc = true := by
  rcases Nat.lt_or_ge pc 48 with q | q
  · exact am_ek_u am_k90_0 (by omega) (by omega)
  rcases Nat.lt_or_ge pc 56 with q | q
  · exact am_ek_u am_k90_1 (by omega) (by omega)
  refine am_ek_none ?_
  show (bif Nat.blt pc 56 then am_cr90 pc else none) = none
  exact am_blt_f q _ _
set_option maxRecDepth 100000 in
theorem am_k91_0 : ((List.range 15).map (fun i => am_ek 91 (i + 0))).all id = true := by decide +kernel
theorem am_ky91 (pc : Nat) : am_ek 91 pc = true := by
  rcases Nat.lt_or_ge pc 15 with q | q
  · exact am_ek_u am_k91_0 (by omega) (by omega)
  refine am_ek_none ?_
  show (bif Nat.blt pc 15 then am_cr91 pc else none) = none
  exact am_blt_f q _ _
set_option maxRecDepth 100000 in
theorem am_k92_0 : ((List.range 11).map (fun i => am_ek 92 (i + 0))).all id = true := by decide +kernel
theorem am_ky92 (pc : Nat) : am_ek 92 pc = true := by
  rcases Nat.lt_or_ge pc 11 with q | q
  · exact am_ek_u am_k92_0 (by omega) (by omega)
  refine am_ek_none ?_
  show (bif Nat.blt pc 11 then am_cr92 pc else none) = none
  exact am_blt_f q _ _
set_option maxRecDepth 100000 in
theorem am_k93_0 : ((List.range 19).map (fun i => am_ek 93 (i + 0))).all id = true := by decide +kernel
theorem am_ky93 (pc : Nat) : am_ek 93 pc = true := by
  rcases Nat.lt_or_ge pc 19 with q | q
  · exact am_ek_u am_k93_0 (by omega) (by omega)
  refine am_ek_none ?_
  show (bif Nat.blt pc 19 then am_cr93 pc else none) = none
  exact am_blt_f q _ _
set_option maxRecDepth 100000 in
theorem am_k94_0 : ((List.range 18).map (fun i => am_ek 94 (i + 0))).all id = true := by decide +kernel
theorem am_ky94 (pc : Nat) : am_ek 94 pc = true := by
  rcases Nat.lt_or_ge pc 18 with q | q
  · exact am_ek_u am_k94_0 (by omega) (by omega)
  refine am_ek_none ?_
  show (bif Nat.blt pc 18 then am_cr94 pc else none) = none
  exact am_blt_f q _ _
set_option maxRecDepth 100000 in
theorem am_k95_0 : ((List.range 10).map (fun i => am_ek 95 (i + 0))).all id = true := by decide +kernel
theorem am_ky95 (pc : Nat) : am_ek 95 pc = true := by
  rcases Nat.lt_or_ge pc 10 with q | q
  · exact am_ek_u am_k95_0 (by omega) (by omega)
  refine am_ek_none ?_
  show (bif Nat.blt pc 10 then am_cr95 pc else none) = none
  exact am_blt_f q _ _
set_option maxRecDepth 100000 in
theorem am_k96_0 : ((List.range 15).map (fun i => am_ek 96 (i + 0))).all id = true := by decide +kernel
theorem am_ky96 (pc : Nat) : am_ek 96 pc = true := by
  rcases Nat.lt_or_ge pc 15 with q | q
  · exact am_ek_u am_k96_0 (by omega) (by omega)
  refine am_ek_none ?_
  show (bif Nat.blt pc 15 then am_cr96 pc else none) = none
  exact am_blt_f q _ _
set_option maxRecDepth 100000 in
theorem am_k97_0 : ((List.range 22).map (fun i => am_ek 97 (i + 0))).all id = true := by decide +kernel
theorem am_ky97 (pc : Nat) : am_ek 97 pc = true := by
  rcases Nat.lt_or_ge pc 22 with q | q
  · exact am_ek_u am_k97_0 (by omega) (by omega)
  refine am_ek_none ?_
  show (bif Nat.blt pc 22 then am_cr97 pc else none) = none
  exact am_blt_f q _ _
set_option maxRecDepth 100000 in
theorem am_k98_0 : ((List.range 29).map (fun i => am_ek 98 (i + 0))).all id = true := by decide +kernel
theorem am_ky98 (pc : Nat) : am_ek 98 pc = true := by
  rcases Nat.lt_or_ge pc 29 with q | q
  · exact am_ek_u am_k98_0 (by omega) (by omega)
  refine am_ek_none ?_
  show (bif Nat.blt pc 29 then am_cr98 pc else none) = none
  exact am_blt_f q _ _
set_option maxRecDepth 100000 in
theorem am_k99_0 : ((List.range 25).map (fun i => am_ek 99 (i + 0))).all id = true := by decide +kernel
theorem am_ky99 (pc : Nat) : am_ek 99 pc = true := by
  rcases Nat.lt_or_ge pc 25 with q | q
  · exact am_ek_u am_k99_0 (by omega) (by omega)
  refine am_ek_none ?_
  show (bif Nat.blt pc 25 then am_cr99 pc else none) = none
  exact am_blt_f q _ _
set_option maxRecDepth 100000 in
theorem am_k100_0 : ((List.range 48).map (fun i => am_ek 100 (i + 0))).all id = true := by decide +kernel
set_option maxRecDepth 100000 in
theorem am_k100_1 : ((List.range 48).map (fun i => am_ek 100 (i + 48))).all id = true := by decide +kernel
set_option maxRecDepth 100000 in
theorem am_k100_2 : ((List.range 48).map (fun i => am_ek 100 (i + 96))).all id = true := by decide +kernel
set_option maxRecDepth 100000 in
theorem am_k100_3 : ((List.range 35).map (fun i => am_ek 100 (i + 144))).all id = true := by decide +kernel
theorem am_ky100 (pc : Nat) : am_ek 100 pc = true := by
  rcases Nat.lt_or_ge pc 48 with q | q
  · exact am_ek_u am_k100_0 (by omega) (by omega)
  rcases Nat.lt_or_ge pc 96 with q | q
  · exact am_ek_u am_k100_1 (by omega) (by omega)
  rcases Nat.lt_or_ge pc 144 with q | q
  · exact am_ek_u am_k100_2 (by omega) (by omega)
  rcases Nat.lt_or_ge pc 179 with q | q
  · exact am_ek_u am_k100_3 (by omega) (by omega)
  refine am_ek_none ?_
  show (bif Nat.blt pc 179 then am_cr100 pc else none) = none
  exact am_blt_f q _ _
set_option maxRecDepth 100000 in
theorem am_k101_0 : ((List.range 23).map (fun i => am_ek 101 (i + 0))).all id = true := by decide +kernel
theorem am_ky101 (pc : Nat) : am_ek 101 pc = true := by
  rcases Nat.lt_or_ge pc 23 with q | q
  · exact am_ek_u am_k101_0 (by omega) (by omega)
  refine am_ek_none ?_
  show (bif Nat.blt pc 23 then am_cr101 pc else none) = none
  exact am_blt_f q _ _
set_option maxRecDepth 100000 in
theorem am_k102_0 : ((List.range 23).map (fun i => am_ek 102 (i + 0))).all id = true := by decide +kernel
theorem am_ky102 (pc : Nat) : am_ek 102 pc = true := by
  rcases Nat.lt_or_ge pc 23 with q | q
  · exact am_ek_u am_k102_0 (by omega) (by omega)
  refine am_ek_none ?_
  show (bif Nat.blt pc 23 then am_cr102 pc else none) = none
  exact am_blt_f q _ _
set_option maxRecDepth 100000 in
theorem am_k103_0 : ((List.range 48).map (fun i => am_ek 103 (i + 0))).all id = true := by decide +kernel
set_option maxRecDepth 100000 in
theorem am_k103_1 : ((List.range 48).map (fun i => am_ek 103 (i + 48))).all id = true := by decide +kernel
set_option maxRecDepth 100000 in
theorem am_k103_2 : ((List.range 48).map (fun i => am_ek 103 (i + 96))).all id = true := by decide +kernel
set_option maxRecDepth 100000 in
theorem am_k103_3 : ((List.range 4).map (fun i => am_ek 103 (i + 144))).all id = true := by decide +kernel
theorem am_ky103 (pc : Nat) : am_ek 103 pc = true := by
  rcases Nat.lt_or_ge pc 48 with q | q
  · exact am_ek_u am_k103_0 (by omega) (by omega)
  rcases Nat.lt_or_ge pc 96 with q | q
  · exact am_ek_u am_k103_1 (by omega) (by omega)
  rcases Nat.lt_or_ge pc 144 with q | q
  · exact am_ek_u am_k103_2 (by omega) (by omega)
  rcases Nat.lt_or_ge pc 148 with q | q
  · exact am_ek_u am_k103_3 (by omega) (by omega)
  refine am_ek_none ?_
  show (bif Nat.blt pc 148 then am_cr103 pc else none) = none
  exact am_blt_f q _ _
set_option maxRecDepth 100000 in
theorem am_k104_0 : ((List.range 48).map (fun i => am_ek 104 (i + 0))).all id = true := by decide +kernel
set_option maxRecDepth 100000 in
theorem am_k104_1 : ((List.range 48).map (fun i => am_ek 104 (i + 48))).all id = true := by decide +kernel
set_option maxRecDepth 100000 in
theorem am_k104_2 : ((List.range 48).map (fun i => am_ek 104 (i + 96))).all id = true := by decide +kernel
set_option maxRecDepth 100000 in
theorem am_k104_3 : ((List.range 48).map (fun i => am_ek 104 (i + 144))).all id = true := by decide +kernel
set_option maxRecDepth 100000 in
theorem am_k104_4 : ((List.range 1).map (fun i => am_ek 104 (i + 192))).all id = true := by decide +kernel
theorem am_ky104 (pc : Nat) : am_ek 104 pc = true := by
  rcases Nat.lt_or_ge pc 48 with q | q
  · exact am_ek_u am_k104_0 (by omega) (by omega)
  rcases Nat.lt_or_ge pc 96 with q | q
  · exact am_ek_u am_k104_1 (by omega) (by omega)
  rcases Nat.lt_or_ge pc 144 with q | q
  · exact am_ek_u am_k104_2 (by omega) (by omega)
  rcases Nat.lt_or_ge pc 192 with q | q
  · exact am_ek_u am_k104_3 (by omega) (by omega)
  rcases Nat.lt_or_ge pc 193 with q | q
  · exact am_ek_u am_k104_4 (by omega) (by omega)
  refine am_ek_none ?_
  show (bif Nat.blt pc 193 then am_cr104 pc else none) = none
  exact am_blt_f q _ _
set_option maxRecDepth 100000 in
theorem am_k105_0 : ((List.range 48).map (fun i => am_ek 105 (i + 0))).all id = true := by decide +kernel
set_option maxRecDepth 100000 in
theorem am_k105_1 : ((List.range 48).map (fun i => am_ek 105 (i + 48))).all id = true := by decide +kernel
set_option maxRecDepth 100000 in
theorem am_k105_2 : ((List.range 42).map (fun i => am_ek 105 (i + 96))).all id = true := by decide +kernel
theorem am_ky105 (pc : Nat) : am_ek 105 pc = true := by
  rcases Nat.lt_or_ge pc 48 with q | q
  · exact am_ek_u am_k105_0 (by omega) (by omega)
  rcases Nat.lt_or_ge pc 96 with q | q
  · exact am_ek_u am_k105_1 (by omega) (by omega)
  rcases Nat.lt_or_ge pc 138 with q | q
  · exact am_ek_u am_k105_2 (by omega) (by omega)
  refine am_ek_none ?_
  show (bif Nat.blt pc 138 then am_cr105 pc else none) = none
  exact am_blt_f q _ _
set_option maxRecDepth 100000 in
theorem am_k106_0 : ((List.range 16).map (fun i => am_ek 106 (i + 0))).all id = true := by decide +kernel
theorem am_ky106 (pc : Nat) : am_ek 106 pc = true := by
  rcases Nat.lt_or_ge pc 16 with q | q
  · exact am_ek_u am_k106_0 (by omega) (by omega)
  refine am_ek_none ?_
  show (bif Nat.blt pc 16 then am_cr106 pc else none) = none
  exact am_blt_f q _ _
set_option maxRecDepth 100000 in
theorem am_k107_0 : ((List.range 21).map (fun i => am_ek 107 (i + 0))).all id = true := by decide +kernel
theorem am_ky107 (pc : Nat) : am_ek 107 pc = true := by
  rcases Nat.lt_or_ge pc 21 with q | q
  · exact am_ek_u am_k107_0 (by omega) (by omega)
  refine am_ek_none ?_
  show (bif Nat.blt pc 21 then am_cr107 pc else none) = none
  exact am_blt_f q _ _
set_option maxRecDepth 100000 in
theorem am_k108_0 : ((List.range 48).map (fun i => am_ek 108 (i + 0))).all id = true := by decide +kernel
set_option maxRecDepth 100000 in
theorem am_k108_1 : ((List.range 48).map (fun i => am_ek 108 (i + 48))).all id = true := by decide +kernel
set_option maxRecDepth 100000 in
theorem am_k108_2 : ((List.range 10).map (fun i => am_ek 108 (i + 96))).all id = true := by decide +kernel
theorem am_ky108 (pc : Nat) : am_ek 108 pc = true := by
  rcases Nat.lt_or_ge pc 48 with q | q
  · exact am_ek_u am_k108_0 (by omega) (by omega)
  rcases Nat.lt_or_ge pc 96 with q | q
  · exact am_ek_u am_k108_1 (by omega) (by omega)
  rcases Nat.lt_or_ge pc 106 with q | q
  · exact am_ek_u am_k108_2 (by omega) (by omega)
  refine am_ek_none ?_
  show (bif Nat.blt pc 106 then am_cr108 pc else none) = none
  exact am_blt_f q _ _
set_option maxRecDepth 100000 in
theorem am_k109_0 : ((List.range 48).map (fun i => am_ek 109 (i + 0))).all id = true := by decide +kernel
set_option maxRecDepth 100000 in
theorem am_k109_1 : ((List.range 24).map (fun i => am_ek 109 (i + 48))).all id = true := by decide +kernel
theorem am_ky109 (pc : Nat) : am_ek 109 pc = true := by
  rcases Nat.lt_or_ge pc 48 with q | q
  · exact am_ek_u am_k109_0 (by omega) (by omega)
  rcases Nat.lt_or_ge pc 72 with q | q
  · exact am_ek_u am_k109_1 (by omega) (by omega)
  refine am_ek_none ?_
  show (bif Nat.blt pc 72 then am_cr109 pc else none) = none
  exact am_blt_f q _ _
set_option maxRecDepth 100000 in
theorem am_k110_0 : ((List.range 48).map (fun i => am_ek 110 (i + 0))).all id = true := by decide +kernel
set_option maxRecDepth 100000 in
theorem am_k110_1 : ((List.range 8).map (fun i => am_ek 110 (i + 48))).all id = true := by decide +kernel
theorem am_ky110 (pc : Nat) : am_ek 110 pc = true := by
  rcases Nat.lt_or_ge pc 48 with q | q
  · exact am_ek_u am_k110_0 (by omega) (by omega)
  rcases Nat.lt_or_ge pc 56 with q | q
  · exact am_ek_u am_k110_1 (by omega) (by omega)
  refine am_ek_none ?_
  show (bif Nat.blt pc 56 then am_cr110 pc else none) = none
  exact am_blt_f q _ _
set_option maxRecDepth 100000 in
theorem am_k111_0 : ((List.range 40).map (fun i => am_ek 111 (i + 0))).all id = true := by decide +kernel
theorem am_ky111 (pc : Nat) : am_ek 111 pc = true := by
  rcases Nat.lt_or_ge pc 40 with q | q
  · exact am_ek_u am_k111_0 (by omega) (by omega)
  refine am_ek_none ?_
  show (bif Nat.blt pc 40 then am_cr111 pc else none) = none
  exact am_blt_f q _ _
set_option maxRecDepth 100000 in
theorem am_k112_0 : ((List.range 48).map (fun i => am_ek 112 (i + 0))).all id = true := by decide +kernel
set_option maxRecDepth 100000 in
theorem am_k112_1 : ((List.range 38).map (fun i => am_ek 112 (i + 48))).all id = true := by decide +kernel
theorem am_ky112 (pc : Nat) : am_ek 112 pc = true := by
  rcases Nat.lt_or_ge pc 48 with q | q
  · exact am_ek_u am_k112_0 (by omega) (by omega)
  rcases Nat.lt_or_ge pc 86 with q | q
  · exact am_ek_u am_k112_1 (by omega) (by omega)
  refine am_ek_none ?_
  show (bif Nat.blt pc 86 then am_cr112 pc else none) = none
  exact am_blt_f q _ _
set_option maxRecDepth 100000 in
theorem am_k113_0 : ((List.range 48).map (fun i => am_ek 113 (i + 0))).all id = true := by decide +kernel
set_option maxRecDepth 100000 in
theorem am_k113_1 : ((List.range 48).map (fun i => am_ek 113 (i + 48))).all id = true := by decide +kernel
set_option maxRecDepth 100000 in
theorem am_k113_2 : ((List.range 48).map (fun i => am_ek 113 (i + 96))).all id = true := by decide +kernel
set_option maxRecDepth 100000 in
theorem am_k113_3 : ((List.range 48).map (fun i => am_ek 113 (i + 144))).all id = true := by decide +kernel
set_option maxRecDepth 100000 in
theorem am_k113_4 : ((List.range 48).map (fun i => am_ek 113 (i + 192))).all id = true := by decide +kernel
set_option maxRecDepth 100000 in
theorem am_k113_5 : ((List.range 48).map (fun i => am_ek 113 (i + 240))).all id = true := by decide +kernel
set_option maxRecDepth 100000 in
theorem am_k113_6 : ((List.range 22).map (fun i => am_ek 113 (i + 288))).all id = true := by decide +kernel
theorem am_ky113 (pc : Nat) : am_ek 113 pc = true := by
  rcases Nat.lt_or_ge pc 48 with q | q
  · exact am_ek_u am_k113_0 (by omega) (by omega)
  rcases Nat.lt_or_ge pc 96 with q | q
  · exact am_ek_u am_k113_1 (by omega) (by omega)
  rcases Nat.lt_or_ge pc 144 with q | q
  · exact am_ek_u am_k113_2 (by omega) (by omega)
  rcases Nat.lt_or_ge pc 192 with q | q
  · exact am_ek_u am_k113_3 (by omega) (by omega)
  rcases Nat.lt_or_ge pc 240 with q | q
  · exact am_ek_u am_k113_4 (by omega) (by omega)
  rcases Nat.lt_or_ge pc 288 with q | q
  · exact am_ek_u am_k113_5 (by omega) (by omega)
  rcases Nat.lt_or_ge pc 310 with q | q
  · exact am_ek_u am_k113_6 (by omega) (by omega)
  refine am_ek_none ?_
  show (bif Nat.blt pc 310 then am_cr113 pc else none) = none
  exact am_blt_f q _ _
set_option maxRecDepth 100000 in
theorem am_k114_0 : ((List.range 48).map (fun i => am_ek 114 (i + 0))).all id = true := by decide +kernel
set_option maxRecDepth 100000 in
theorem am_k114_1 : ((List.range 48).map (fun i => am_ek 114 (i + 48))).all id = true := by decide +kernel
set_option maxRecDepth 100000 in
theorem am_k114_2 : ((List.range 48).map (fun i => am_ek 114 (i + 96))).all id = true := by decide +kernel
set_option maxRecDepth 100000 in
theorem am_k114_3 : ((List.range 48).map (fun i => am_ek 114 (i + 144))).all id = true := by decide +kernel
set_option maxRecDepth 100000 in
theorem am_k114_4 : ((List.range 3).map (fun i => am_ek 114 (i + 192))).all id = true := by decide +kernel
theorem am_ky114 (pc : Nat) : am_ek 114 pc = true := by
  rcases Nat.lt_or_ge pc 48 with q | q
  · exact am_ek_u am_k114_0 (by omega) (by omega)
  rcases Nat.lt_or_ge pc 96 with q | q
  · exact am_ek_u am_k114_1 (by omega) (by omega)
  rcases Nat.lt_or_ge pc 144 with q | q
  · exact am_ek_u am_k114_2 (by omega) (by omega)
  rcases Nat.lt_or_ge pc 192 with q | q
  · exact am_ek_u am_k114_3 (by omega) (by omega)
  rcases Nat.lt_or_ge pc 195 with q | q
  · exact am_ek_u am_k114_4 (by omega) (by omega)
  refine am_ek_none ?_
  show (bif Nat.blt pc 195 then am_cr114 pc else none) = none
  exact am_blt_f q _ _
set_option maxRecDepth 100000 in
theorem am_k115_0 : ((List.range 5).map (fun i => am_ek 115 (i + 0))).all id = true := by decide +kernel
theorem am_ky115 (pc : Nat) : am_ek 115 pc = true := by
  rcases Nat.lt_or_ge pc 5 with q | q
  · exact am_ek_u am_k115_0 (by omega) (by omega)
  refine am_ek_none ?_
  show (bif Nat.blt pc 5 then am_cr115 pc else none) = none
  exact am_blt_f q _ _
set_option maxRecDepth 100000 in
theorem am_k116_0 : ((List.range 5).map (fun i => am_ek 116 (i + 0))).all id = true := by decide +kernel
theorem am_ky116 (pc : Nat) : am_ek 116 pc = true := by
  rcases Nat.lt_or_ge pc 5 with q | q
  · exact am_ek_u am_k116_0 (by omega) (by omega)
  refine am_ek_none ?_
  show (bif Nat.blt pc 5 then am_cr116 pc else none) = none
  exact am_blt_f q _ _
set_option maxRecDepth 100000 in
theorem am_k117_0 : ((List.range 48).map (fun i => am_ek 117 (i + 0))).all id = true := by decide +kernel
set_option maxRecDepth 100000 in
theorem am_k117_1 : ((List.range 48).map (fun i => am_ek 117 (i + 48))).all id = true := by decide +kernel
set_option maxRecDepth 100000 in
theorem am_k117_2 : ((List.range 48).map (fun i => am_ek 117 (i + 96))).all id = true := by decide +kernel
set_option maxRecDepth 100000 in
theorem am_k117_3 : ((List.range 48).map (fun i => am_ek 117 (i + 144))).all id = true := by decide +kernel
set_option maxRecDepth 100000 in
theorem am_k117_4 : ((List.range 9).map (fun i => am_ek 117 (i + 192))).all id = true := by decide +kernel
theorem am_ky117 (pc : Nat) : am_ek 117 pc = true := by
  rcases Nat.lt_or_ge pc 48 with q | q
  · exact am_ek_u am_k117_0 (by omega) (by omega)
  rcases Nat.lt_or_ge pc 96 with q | q
  · exact am_ek_u am_k117_1 (by omega) (by omega)
  rcases Nat.lt_or_ge pc 144 with q | q
  · exact am_ek_u am_k117_2 (by omega) (by omega)
  rcases Nat.lt_or_ge pc 192 with q | q
  · exact am_ek_u am_k117_3 (by omega) (by omega)
  rcases Nat.lt_or_ge pc 201 with q | q
  · exact am_ek_u am_k117_4 (by omega) (by omega)
  refine am_ek_none ?_
  show (bif Nat.blt pc 201 then am_cr117 pc else none) = none
  exact am_blt_f q _ _
set_option maxRecDepth 100000 in
theorem am_k118_0 : ((List.range 48).map (fun i => am_ek 118 (i + 0))).all id = true := by decide +kernel
set_option maxRecDepth 100000 in
theorem am_k118_1 : ((List.range 48).map (fun i => am_ek 118 (i + 48))).all id = true := by decide +kernel
set_option maxRecDepth 100000 in
theorem am_k118_2 : ((List.range 29).map (fun i => am_ek 118 (i + 96))).all id = true := by decide +kernel
theorem am_ky118 (pc : Nat) : am_ek 118 pc = true := by
  rcases Nat.lt_or_ge pc 48 with q | q
  · exact am_ek_u am_k118_0 (by omega) (by omega)
  rcases Nat.lt_or_ge pc 96 with q | q
  · exact am_ek_u am_k118_1 (by omega) (by omega)
  rcases Nat.lt_or_ge pc 125 with q | q
  · exact am_ek_u am_k118_2 (by omega) (by omega)
  refine am_ek_none ?_
  show (bif Nat.blt pc 125 then am_cr118 pc else none) = none
  exact am_blt_f q _ _
set_option maxRecDepth 100000 in
theorem am_k119_0 : ((List.range 47).map (fun i => am_ek 119 (i + 0))).all id = true := by decide +kernel
theorem am_ky119 (pc : Nat) : am_ek 119 pc = true := by
  rcases Nat.lt_or_ge pc 47 with q | q
  · exact am_ek_u am_k119_0 (by omega) (by omega)
  refine am_ek_none ?_
  show (bif Nat.blt pc 47 then am_cr119 pc else none) = none
  exact am_blt_f q _ _
set_option maxRecDepth 100000 in
theorem am_k120_0 : ((List.range 48).map (fun i => am_ek 120 (i + 0))).all id = true := by decide +kernel
set_option maxRecDepth 100000 in
theorem am_k120_1 : ((List.range 38).map (fun i => am_ek 120 (i + 48))).all id = true := by decide +kernel
theorem am_ky120 (pc : Nat) : am_ek 120 pc = true := by
  rcases Nat.lt_or_ge pc 48 with q | q
  · exact am_ek_u am_k120_0 (by omega) (by omega)
  rcases Nat.lt_or_ge pc 86 with q | q
  · exact am_ek_u am_k120_1 (by omega) (by omega)
  refine am_ek_none ?_
  show (bif Nat.blt pc 86 then am_cr120 pc else none) = none
  exact am_blt_f q _ _
set_option maxRecDepth 100000 in
theorem am_k121_0 : ((List.range 48).map (fun i => am_ek 121 (i + 0))).all id = true := by decide +kernel
set_option maxRecDepth 100000 in
theorem am_k121_1 : ((List.range 48).map (fun i => am_ek 121 (i + 48))).all id = true := by decide +kernel
set_option maxRecDepth 100000 in
theorem am_k121_2 : ((List.range 48).map (fun i => am_ek 121 (i + 96))).all id = true := by decide +kernel
set_option maxRecDepth 100000 in
theorem am_k121_3 : ((List.range 29).map (fun i => am_ek 121 (i + 144))).all id = true := by decide +kernel
theorem am_ky121 (pc : Nat) : am_ek 121 pc = true := by
  rcases Nat.lt_or_ge pc 48 with q | q
  · exact am_ek_u am_k121_0 (by omega) (by omega)
  rcases Nat.lt_or_ge pc 96 with q | q
  · exact am_ek_u am_k121_1 (by omega) (by omega)
  rcases Nat.lt_or_ge pc 144 with q | q
  · exact am_ek_u am_k121_2 (by omega) (by omega)
  rcases Nat.lt_or_ge pc 173 with q | q
  · exact am_ek_u am_k121_3 (by omega) (by omega)
  refine am_ek_none ?_
  show (bif Nat.blt pc 173 then am_cr121 pc else none) = none
  exact am_blt_f q _ _
set_option maxRecDepth 100000 in
theorem am_k122_0 : ((List.range 48).map (fun i => am_ek 122 (i + 0))).all id = true := by decide +kernel
set_option maxRecDepth 100000 in
theorem am_k122_1 : ((List.range 20).map (fun i => am_ek 122 (i + 48))).all id = true := by decide +kernel
theorem am_ky122 (pc : Nat) : am_ek 122 pc = true := by
  rcases Nat.lt_or_ge pc 48 with q | q
  · exact am_ek_u am_k122_0 (by omega) (by omega)
  rcases Nat.lt_or_ge pc 68 with q | q
  · exact am_ek_u am_k122_1 (by omega) (by omega)
  refine am_ek_none ?_
  show (bif Nat.blt pc 68 then am_cr122 pc else none) = none
  exact am_blt_f q _ _
set_option maxRecDepth 100000 in
theorem am_k123_0 : ((List.range 28).map (fun i => am_ek 123 (i + 0))).all id = true := by decide +kernel
theorem am_ky123 (pc : Nat) : am_ek 123 pc = true := by
  rcases Nat.lt_or_ge pc 28 with q | q
  · exact am_ek_u am_k123_0 (by omega) (by omega)
  refine am_ek_none ?_
  show (bif Nat.blt pc 28 then am_cr123 pc else none) = none
  exact am_blt_f q _ _
set_option maxRecDepth 100000 in
theorem am_k124_0 : ((List.range 22).map (fun i => am_ek 124 (i + 0))).all id = true := by decide +kernel
theorem am_ky124 (pc : Nat) : am_ek 124 pc = true := by
  rcases Nat.lt_or_ge pc 22 with q | q
  · exact am_ek_u am_k124_0 (by omega) (by omega)
  refine am_ek_none ?_
  show (bif Nat.blt pc 22 then am_cr124 pc else none) = none
  exact am_blt_f q _ _
set_option maxRecDepth 100000 in
theorem am_k125_0 : ((List.range 48).map (fun i => am_ek 125 (i + 0))).all id = true := by decide +kernel
set_option maxRecDepth 100000 in
theorem am_k125_1 : ((List.range 13).map (fun i => am_ek 125 (i + 48))).all id = true := by decide +kernel
theorem am_ky125 (pc : Nat) : am_ek 125 pc = true := by
  rcases Nat.lt_or_ge pc 48 with q | q
  · exact am_ek_u am_k125_0 (by omega) (by omega)
  rcases Nat.lt_or_ge pc 61 with q | q
  · exact am_ek_u am_k125_1 (by omega) (by omega)
  refine am_ek_none ?_
  show (bif Nat.blt pc 61 then am_cr125 pc else none) = none
  exact am_blt_f q _ _
set_option maxRecDepth 100000 in
theorem am_k126_0 : ((List.range 22).map (fun i => am_ek 126 (i + 0))).all id = true := by decide +kernel
theorem am_ky126 (pc : Nat) : am_ek 126 pc = true := by
  rcases Nat.lt_or_ge pc 22 with q | q
  · exact am_ek_u am_k126_0 (by omega) (by omega)
  refine am_ek_none ?_
  show (bif Nat.blt pc 22 then am_cr126 pc else none) = none
  exact am_blt_f q _ _
set_option maxRecDepth 100000 in
theorem am_k127_0 : ((List.range 48).map (fun i => am_ek 127 (i + 0))).all id = true := by decide +kernel
set_option maxRecDepth 100000 in
theorem am_k127_1 : ((List.range 48).map (fun i => am_ek 127 (i + 48))).all id = true := by decide +kernel
set_option maxRecDepth 100000 in
theorem am_k127_2 : ((List.range 48).map (fun i => am_ek 127 (i + 96))).all id = true := by decide +kernel
set_option maxRecDepth 100000 in
theorem am_k127_3 : ((List.range 15).map (fun i => am_ek 127 (i + 144))).all id = true := by decide +kernel
theorem am_ky127 (pc : Nat) : am_ek 127 pc = true := by
  rcases Nat.lt_or_ge pc 48 with q | q
  · exact am_ek_u am_k127_0 (by omega) (by omega)
  rcases Nat.lt_or_ge pc 96 with q | q
  · exact am_ek_u am_k127_1 (by omega) (by omega)
  rcases Nat.lt_or_ge pc 144 with q | q
  · exact am_ek_u am_k127_2 (by omega) (by omega)
  rcases Nat.lt_or_ge pc 159 with q | q
  · exact am_ek_u am_k127_3 (by omega) (by omega)
  refine am_ek_none ?_
  show (bif Nat.blt pc 159 then am_cr127 pc else none) = none
  exact am_blt_f q _ _
set_option maxRecDepth 100000 in
theorem am_k128_0 : ((List.range 48).map (fun i => am_ek 128 (i + 0))).all id = true := by decide +kernel
set_option maxRecDepth 100000 in
theorem am_k128_1 : ((List.range 46).map (fun i => am_ek 128 (i + 48))).all id = true := by decide +kernel
theorem am_ky128 (pc : Nat) : am_ek 128 pc = true := by
  rcases Nat.lt_or_ge pc 48 with q | q
  · exact am_ek_u am_k128_0 (by omega) (by omega)
  rcases Nat.lt_or_ge pc 94 with q | q
  · exact am_ek_u am_k128_1 (by omega) (by omega)
  refine am_ek_none ?_
  show (bif Nat.blt pc 94 then am_cr128 pc else none) = none
  exact am_blt_f q _ _
set_option maxRecDepth 100000 in
theorem am_k129_0 : ((List.range 44).map (fun i => am_ek 129 (i + 0))).all id = true := by decide +kernel
theorem am_ky129 (pc : Nat) : am_ek 129 pc = true := by
  rcases Nat.lt_or_ge pc 44 with q | q
  · exact am_ek_u am_k129_0 (by omega) (by omega)
  refine am_ek_none ?_
  show (bif Nat.blt pc 44 then am_cr129 pc else none) = none
  exact am_blt_f q _ _
set_option maxRecDepth 100000 in
theorem am_k130_0 : ((List.range 43).map (fun i => am_ek 130 (i + 0))).all id = true := by decide +kernel
theorem am_ky130 (pc : Nat) : am_ek 130 pc = true := by
  rcases Nat.lt_or_ge pc 43 with q | q
  · exact am_ek_u am_k130_0 (by omega) (by omega)
  refine am_ek_none ?_
  show (bif Nat.blt pc 43 then am_cr130 pc else none) = none
  exact am_blt_f q _ _
set_option maxRecDepth 100000 in
theorem am_k131_0 : ((List.range 48).map (fun i => am_ek 131 (i + 0))).all id = true := by decide +kernel
set_option maxRecDepth 100000 in
theorem am_k131_1 : ((List.range 48).map (fun i => am_ek 131 (i + 48))).all id = true := by decide +kernel
set_option maxRecDepth 100000 in
theorem am_k131_2 : ((List.range 27).map (fun i => am_ek 131 (i + 96))).all id = true := by decide +kernel
theorem am_ky131 (pc : Nat) : am_ek 131 pc = true := by
  rcases Nat.lt_or_ge pc 48 with q | q
  · exact am_ek_u am_k131_0 (by omega) (by omega)
  rcases Nat.lt_or_ge pc 96 with q | q
  · exact am_ek_u am_k131_1 (by omega) (by omega)
  rcases Nat.lt_or_ge pc 123 with q | q
  · exact am_ek_u am_k131_2 (by omega) (by omega)
  refine am_ek_none ?_
  show (bif Nat.blt pc 123 then am_cr131 pc else none) = none
  exact am_blt_f q _ _
set_option maxRecDepth 100000 in
theorem am_k132_0 : ((List.range 48).map (fun i => am_ek 132 (i + 0))).all id = true := by decide +kernel
set_option maxRecDepth 100000 in
theorem am_k132_1 : ((List.range 48).map (fun i => am_ek 132 (i + 48))).all id = true := by decide +kernel
set_option maxRecDepth 100000 in
theorem am_k132_2 : ((List.range 48).map (fun i => am_ek 132 (i + 96))).all id = true := by decide +kernel
set_option maxRecDepth 100000 in
theorem am_k132_3 : ((List.range 48).map (fun i => am_ek 132 (i + 144))).all id = true := by decide +kernel
set_option maxRecDepth 100000 in
theorem am_k132_4 : ((List.range 17).map (fun i => am_ek 132 (i + 192))).all id = true := by decide +kernel
theorem am_ky132 (pc : Nat) : am_ek 132 pc = true := by
  rcases Nat.lt_or_ge pc 48 with q | q
  · exact am_ek_u am_k132_0 (by omega) (by omega)
  rcases Nat.lt_or_ge pc 96 with q | q
  · exact am_ek_u am_k132_1 (by omega) (by omega)
  rcases Nat.lt_or_ge pc 144 with q | q
  · exact am_ek_u am_k132_2 (by omega) (by omega)
  rcases Nat.lt_or_ge pc 192 with q | q
  · exact am_ek_u am_k132_3 (by omega) (by omega)
  rcases Nat.lt_or_ge pc 209 with q | q
  · exact am_ek_u am_k132_4 (by omega) (by omega)
  refine am_ek_none ?_
  show (bif Nat.blt pc 209 then am_cr132 pc else none) = none
  exact am_blt_f q _ _
set_option maxRecDepth 100000 in
theorem am_k133_0 : ((List.range 48).map (fun i => am_ek 133 (i + 0))).all id = true := by decide +kernel
set_option maxRecDepth 100000 in
theorem am_k133_1 : ((List.range 48).map (fun i => am_ek 133 (i + 48))).all id = true := by decide +kernel
set_option maxRecDepth 100000 in
theorem am_k133_2 : ((List.range 33).map (fun i => am_ek 133 (i + 96))).all id = true := by decide +kernel
theorem am_ky133 (pc : Nat) : am_ek 133 pc = true := by
  rcases Nat.lt_or_ge pc 48 with q | q
  · exact am_ek_u am_k133_0 (by omega) (by omega)
  rcases Nat.lt_or_ge pc 96 with q | q
  · exact am_ek_u am_k133_1 (by omega) (by omega)
  rcases Nat.lt_or_ge pc 129 with q | q
  · exact am_ek_u am_k133_2 (by omega) (by omega)
  refine am_ek_none ?_
  show (bif Nat.blt pc 129 then am_cr133 pc else none) = none
  exact am_blt_f q _ _
set_option maxRecDepth 100000 in
theorem am_k134_0 : ((List.range 48).map (fun i => am_ek 134 (i + 0))).all id = true := by decide +kernel
set_option maxRecDepth 100000 in
theorem am_k134_1 : ((List.range 48).map (fun i => am_ek 134 (i + 48))).all id = true := by decide +kernel
set_option maxRecDepth 100000 in
theorem am_k134_2 : ((List.range 48).map (fun i => am_ek 134 (i + 96))).all id = true := by decide +kernel
set_option maxRecDepth 100000 in
theorem am_k134_3 : ((List.range 4).map (fun i => am_ek 134 (i + 144))).all id = true := by decide +kernel
theorem am_ky134 (pc : Nat) : am_ek 134 pc = true := by
  rcases Nat.lt_or_ge pc 48 with q | q
  · exact am_ek_u am_k134_0 (by omega) (by omega)
  rcases Nat.lt_or_ge pc 96 with q | q
  · exact am_ek_u am_k134_1 (by omega) (by omega)
  rcases Nat.lt_or_ge pc 144 with q | q
  · exact am_ek_u am_k134_2 (by omega) (by omega)
  rcases Nat.lt_or_ge pc 148 with q | q
  · exact am_ek_u am_k134_3 (by omega) (by omega)
  refine am_ek_none ?_
  show (bif Nat.blt pc 148 then am_cr134 pc else none) = none
  exact am_blt_f q _ _
set_option maxRecDepth 100000 in
theorem am_k135_0 : ((List.range 48).map (fun i => am_ek 135 (i + 0))).all id = true := by decide +kernel
set_option maxRecDepth 100000 in
theorem am_k135_1 : ((List.range 48).map (fun i => am_ek 135 (i + 48))).all id = true := by decide +kernel
set_option maxRecDepth 100000 in
theorem am_k135_2 : ((List.range 48).map (fun i => am_ek 135 (i + 96))).all id = true := by decide +kernel
set_option maxRecDepth 100000 in
theorem am_k135_3 : ((List.range 48).map (fun i => am_ek 135 (i + 144))).all id = true := by decide +kernel
set_option maxRecDepth 100000 in
theorem am_k135_4 : ((List.range 45).map (fun i => am_ek 135 (i + 192))).all id = true := by decide +kernel
theorem am_ky135 (pc : Nat) : am_ek 135 pc = true := by
  rcases Nat.lt_or_ge pc 48 with q | q
  · exact am_ek_u am_k135_0 (by omega) (by omega)
  rcases Nat.lt_or_ge pc 96 with q | q
  · exact am_ek_u am_k135_1 (by omega) (by omega)
  rcases Nat.lt_or_ge pc 144 with q | q
  · exact am_ek_u am_k135_2 (by omega) (by omega)
  rcases Nat.lt_or_ge pc 192 with q | q
  · exact am_ek_u am_k135_3 (by omega) (by omega)
  rcases Nat.lt_or_ge pc 237 with q | q
  · exact am_ek_u am_k135_4 (by omega) (by omega)
  refine am_ek_none ?_
  show (bif Nat.blt pc 237 then am_cr135 pc else none) = none
  exact am_blt_f q _ _
set_option maxRecDepth 100000 in
theorem am_k136_0 : ((List.range 48).map (fun i => am_ek 136 (i + 0))).all id = true := by decide +kernel
set_option maxRecDepth 100000 in
theorem am_k136_1 : ((List.range 48).map (fun i => am_ek 136 (i + 48))).all id = true := by decide +kernel
set_option maxRecDepth 100000 in
theorem am_k136_2 : ((List.range 48).map (fun i => am_ek 136 (i + 96))).all id = true := by decide +kernel
set_option maxRecDepth 100000 in
theorem am_k136_3 : ((List.range 43).map (fun i => am_ek 136 (i + 144))).all id = true := by decide +kernel
theorem am_ky136 (pc : Nat) : am_ek 136 pc = true := by
  rcases Nat.lt_or_ge pc 48 with q | q
  · exact am_ek_u am_k136_0 (by omega) (by omega)
  rcases Nat.lt_or_ge pc 96 with q | q
  · exact am_ek_u am_k136_1 (by omega) (by omega)
  rcases Nat.lt_or_ge pc 144 with q | q
  · exact am_ek_u am_k136_2 (by omega) (by omega)
  rcases Nat.lt_or_ge pc 187 with q | q
  · exact am_ek_u am_k136_3 (by omega) (by omega)
  refine am_ek_none ?_
  show (bif Nat.blt pc 187 then am_cr136 pc else none) = none
  exact am_blt_f q _ _
set_option maxRecDepth 100000 in
theorem am_k137_0 : ((List.range 48).map (fun i => am_ek 137 (i + 0))).all id = true := by decide +kernel
set_option maxRecDepth 100000 in
theorem am_k137_1 : ((List.range 48).map (fun i => am_ek 137 (i + 48))).all id = true := by decide +kernel
set_option maxRecDepth 100000 in
theorem am_k137_2 : ((List.range 18).map (fun i => am_ek 137 (i + 96))).all id = true := by decide +kernel
theorem am_ky137 (pc : Nat) : am_ek 137 pc = true := by
  rcases Nat.lt_or_ge pc 48 with q | q
  · exact am_ek_u am_k137_0 (by omega) (by omega)
  rcases Nat.lt_or_ge pc 96 with q | q
  · exact am_ek_u am_k137_1 (by omega) (by omega)
  rcases Nat.lt_or_ge pc 114 with q | q
  · exact am_ek_u am_k137_2 (by omega) (by omega)
  refine am_ek_none ?_
  show (bif Nat.blt pc 114 then am_cr137 pc else none) = none
  exact am_blt_f q _ _
set_option maxRecDepth 100000 in
theorem am_k138_0 : ((List.range 22).map (fun i => am_ek 138 (i + 0))).all id = true := by decide +kernel
theorem am_ky138 (pc : Nat) : am_ek 138 pc = true := by
  rcases Nat.lt_or_ge pc 22 with q | q
  · exact am_ek_u am_k138_0 (by omega) (by omega)
  refine am_ek_none ?_
  show (bif Nat.blt pc 22 then am_cr138 pc else none) = none
  exact am_blt_f q _ _
set_option maxRecDepth 100000 in
theorem am_k139_0 : ((List.range 22).map (fun i => am_ek 139 (i + 0))).all id = true := by decide +kernel
theorem am_ky139 (pc : Nat) : am_ek 139 pc = true := by
  rcases Nat.lt_or_ge pc 22 with q | q
  · exact am_ek_u am_k139_0 (by omega) (by omega)
  refine am_ek_none ?_
  show (bif Nat.blt pc 22 then am_cr139 pc else none) = none
  exact am_blt_f q _ _
set_option maxRecDepth 100000 in
theorem am_k140_0 : ((List.range 48).map (fun i => am_ek 140 (i + 0))).all id = true := by decide +kernel
set_option maxRecDepth 100000 in
theorem am_k140_1 : ((List.range 48).map (fun i => am_ek 140 (i + 48))).all id = true := by decide +kernel
set_option maxRecDepth 100000 in
theorem am_k140_2 : ((List.range 48).map (fun i => am_ek 140 (i + 96))).all id = true := by decide +kernel
set_option maxRecDepth 100000 in
theorem am_k140_3 : ((List.range 48).map (fun i => am_ek 140 (i + 144))).all id = true := by decide +kernel
set_option maxRecDepth 100000 in
theorem am_k140_4 : ((List.range 48).map (fun i => am_ek 140 (i + 192))).all id = true := by decide +kernel
set_option maxRecDepth 100000 in
theorem am_k140_5 : ((List.range 48).map (fun i => am_ek 140 (i + 240))).all id = true := by decide +kernel
set_option maxRecDepth 100000 in
theorem am_k140_6 : ((List.range 20).map (fun i => am_ek 140 (i + 288))).all id = true := by decide +kernel
theorem am_ky140 (pc : Nat) : am_ek 140 pc = true := by
  rcases Nat.lt_or_ge pc 48 with q | q
  · exact am_ek_u am_k140_0 (by omega) (by omega)
  rcases Nat.lt_or_ge pc 96 with q | q
  · exact am_ek_u am_k140_1 (by omega) (by omega)
  rcases Nat.lt_or_ge pc 144 with q | q
  · exact am_ek_u am_k140_2 (by omega) (by omega)
  rcases Nat.lt_or_ge pc 192 with q | q
  · exact am_ek_u am_k140_3 (by omega) (by omega)
  rcases Nat.lt_or_ge pc 240 with q | q
  · exact am_ek_u am_k140_4 (by omega) (by omega)
  rcases Nat.lt_or_ge pc 288 with q | q
  · exact am_ek_u am_k140_5 (by omega) (by omega)
  rcases Nat.lt_or_ge pc 308 with q | q
  · exact am_ek_u am_k140_6 (by omega) (by omega)
  refine am_ek_none ?_
  show (bif Nat.blt pc 308 then am_cr140 pc else none) = none
  exact am_blt_f q _ _
set_option maxRecDepth 100000 in
theorem am_k141_0 : ((List.range 12).map (fun i => am_ek 141 (i + 0))).all id = true := by decide +kernel
theorem am_ky141 (pc : Nat) : am_ek 141 pc = true := by
  rcases Nat.lt_or_ge pc 12 with q | q
  · exact am_ek_u am_k141_0 (by omega) (by omega)
  refine am_ek_none ?_
  show (bif Nat.blt pc 12 then am_cr141 pc else none) = none
  exact am_blt_f q _ _
set_option maxRecDepth 100000 in
theorem am_k142_0 : ((List.range 48).map (fun i => am_ek 142 (i + 0))).all id = true := by decide +kernel
set_option maxRecDepth 100000 in
theorem am_k142_1 : ((List.range 48).map (fun i => am_ek 142 (i + 48))).all id = true := by decide +kernel
set_option maxRecDepth 100000 in
theorem am_k142_2 : ((List.range 6).map (fun i => am_ek 142 (i + 96))).all id = true := by decide +kernel
theorem am_ky142 (pc : Nat) : am_ek 142 pc = true := by
  rcases Nat.lt_or_ge pc 48 with q | q
  · exact am_ek_u am_k142_0 (by omega) (by omega)
  rcases Nat.lt_or_ge pc 96 with q | q
  · exact am_ek_u am_k142_1 (by omega) (by omega)
  rcases Nat.lt_or_ge pc 102 with q | q
  · exact am_ek_u am_k142_2 (by omega) (by omega)
  refine am_ek_none ?_
  show (bif Nat.blt pc 102 then am_cr142 pc else none) = none
  exact am_blt_f q _ _
set_option maxRecDepth 100000 in
theorem am_k143_0 : ((List.range 27).map (fun i => am_ek 143 (i + 0))).all id = true := by decide +kernel
theorem am_ky143 (pc : Nat) : am_ek 143 pc = true := by
  rcases Nat.lt_or_ge pc 27 with q | q
  · exact am_ek_u am_k143_0 (by omega) (by omega)
  refine am_ek_none ?_
  show (bif Nat.blt pc 27 then am_cr143 pc else none) = none
  exact am_blt_f q _ _
set_option maxRecDepth 100000 in
theorem am_k144_0 : ((List.range 48).map (fun i => am_ek 144 (i + 0))).all id = true := by decide +kernel
set_option maxRecDepth 100000 in
theorem am_k144_1 : ((List.range 48).map (fun i => am_ek 144 (i + 48))).all id = true := by decide +kernel
set_option maxRecDepth 100000 in
theorem am_k144_2 : ((List.range 48).map (fun i => am_ek 144 (i + 96))).all id = true := by decide +kernel
set_option maxRecDepth 100000 in
theorem am_k144_3 : ((List.range 48).map (fun i => am_ek 144 (i + 144))).all id = true := by decide +kernel
set_option maxRecDepth 100000 in
theorem am_k144_4 : ((List.range 47).map (fun i => am_ek 144 (i + 192))).all id = true := by decide +kernel
theorem am_ky144 (pc : Nat) : am_ek 144 pc = true := by
  rcases Nat.lt_or_ge pc 48 with q | q
  · exact am_ek_u am_k144_0 (by omega) (by omega)
  rcases Nat.lt_or_ge pc 96 with q | q
  · exact am_ek_u am_k144_1 (by omega) (by omega)
  rcases Nat.lt_or_ge pc 144 with q | q
  · exact am_ek_u am_k144_2 (by omega) (by omega)
  rcases Nat.lt_or_ge pc 192 with q | q
  · exact am_ek_u am_k144_3 (by omega) (by omega)
  rcases Nat.lt_or_ge pc 239 with q | q
  · exact am_ek_u am_k144_4 (by omega) (by omega)
  refine am_ek_none ?_
  show (bif Nat.blt pc 239 then am_cr144 pc else none) = none
  exact am_blt_f q _ _
set_option maxRecDepth 100000 in
theorem am_k145_0 : ((List.range 48).map (fun i => am_ek 145 (i + 0))).all id = true := by decide +kernel
set_option maxRecDepth 100000 in
theorem am_k145_1 : ((List.range 15).map (fun i => am_ek 145 (i + 48))).all id = true := by decide +kernel
theorem am_ky145 (pc : Nat) : am_ek 145 pc = true := by
  rcases Nat.lt_or_ge pc 48 with q | q
  · exact am_ek_u am_k145_0 (by omega) (by omega)
  rcases Nat.lt_or_ge pc 63 with q | q
  · exact am_ek_u am_k145_1 (by omega) (by omega)
  refine am_ek_none ?_
  show (bif Nat.blt pc 63 then am_cr145 pc else none) = none
  exact am_blt_f q _ _
set_option maxRecDepth 100000 in
theorem am_k146_0 : ((List.range 48).map (fun i => am_ek 146 (i + 0))).all id = true := by decide +kernel
set_option maxRecDepth 100000 in
theorem am_k146_1 : ((List.range 48).map (fun i => am_ek 146 (i + 48))).all id = true := by decide +kernel
set_option maxRecDepth 100000 in
theorem am_k146_2 : ((List.range 48).map (fun i => am_ek 146 (i + 96))).all id = true := by decide +kernel
set_option maxRecDepth 100000 in
theorem am_k146_3 : ((List.range 48).map (fun i => am_ek 146 (i + 144))).all id = true := by decide +kernel
set_option maxRecDepth 100000 in
theorem am_k146_4 : ((List.range 48).map (fun i => am_ek 146 (i + 192))).all id = true := by decide +kernel
set_option maxRecDepth 100000 in
theorem am_k146_5 : ((List.range 34).map (fun i => am_ek 146 (i + 240))).all id = true := by decide +kernel
theorem am_ky146 (pc : Nat) : am_ek 146 pc = true := by
  rcases Nat.lt_or_ge pc 48 with q | q
  · exact am_ek_u am_k146_0 (by omega) (by omega)
  rcases Nat.lt_or_ge pc 96 with q | q
  · exact am_ek_u am_k146_1 (by omega) (by omega)
  rcases Nat.lt_or_ge pc 144 with q | q
  · exact am_ek_u am_k146_2 (by omega) (by omega)
  rcases Nat.lt_or_ge pc 192 with q | q
  · exact am_ek_u am_k146_3 (by omega) (by omega)
  rcases Nat.lt_or_ge pc 240 with q | q
  · exact am_ek_u am_k146_4 (by omega) (by omega)
  rcases Nat.lt_or_ge pc 274 with q | q
  · exact am_ek_u am_k146_5 (by omega) (by omega)
  refine am_ek_none ?_
  show (bif Nat.blt pc 274 then am_cr146 pc else none) = none
  exact am_blt_f q _ _
set_option maxRecDepth 100000 in
theorem am_k147_0 : ((List.range 48).map (fun i => am_ek 147 (i + 0))).all id = true := by decide +kernel
set_option maxRecDepth 100000 in
theorem am_k147_1 : ((List.range 48).map (fun i => am_ek 147 (i + 48))).all id = true := by decide +kernel
set_option maxRecDepth 100000 in
theorem am_k147_2 : ((List.range 48).map (fun i => am_ek 147 (i + 96))).all id = true := by decide +kernel
set_option maxRecDepth 100000 in
theorem am_k147_3 : ((List.range 48).map (fun i => am_ek 147 (i + 144))).all id = true := by decide +kernel
set_option maxRecDepth 100000 in
theorem am_k147_4 : ((List.range 12).map (fun i => am_ek 147 (i + 192))).all id = true := by decide +kernel
theorem am_ky147 (pc : Nat) : am_ek 147 pc = true := by
  rcases Nat.lt_or_ge pc 48 with q | q
  · exact am_ek_u am_k147_0 (by omega) (by omega)
  rcases Nat.lt_or_ge pc 96 with q | q
  · exact am_ek_u am_k147_1 (by omega) (by omega)
  rcases Nat.lt_or_ge pc 144 with q | q
  · exact am_ek_u am_k147_2 (by omega) (by omega)
  rcases Nat.lt_or_ge pc 192 with q | q
  · exact am_ek_u am_k147_3 (by omega) (by omega)
  rcases Nat.lt_or_ge pc 204 with q | q
  · exact am_ek_u am_k147_4 (by omega) (by omega)
  refine am_ek_none ?_
  show (bif Nat.blt pc 204 then am_cr147 pc else none) = none
  exact am_blt_f q _ _
set_option maxRecDepth 100000 in
theorem am_k148_0 : ((List.range 30).map (fun i => am_ek 148 (i + 0))).all id = true := by decide +kernel
theorem am_ky148 (pc : Nat) : am_ek 148 pc = true := by
  rcases Nat.lt_or_ge pc 30 with q | q
  · exact am_ek_u am_k148_0 (by omega) (by omega)
  refine am_ek_none ?_
  show (bif Nat.blt pc 30 then am_cr148 pc else none) = none
  exact am_blt_f q _ _
set_option maxRecDepth 100000 in
theorem am_k149_0 : ((List.range 48).map (fun i => am_ek 149 (i + 0))).all id = true := by decide +kernel
set_option maxRecDepth 100000 in
theorem am_k149_1 : ((List.range 48).map (fun i => am_ek 149 (i + 48))).all id = true := by decide +kernel
set_option maxRecDepth 100000 in
theorem am_k149_2 : ((List.range 48).map (fun i => am_ek 149 (i + 96))).all id = true := by decide +kernel
set_option maxRecDepth 100000 in
theorem am_k149_3 : ((List.range 7).map (fun i => am_ek 149 (i + 144))).all id = true := by decide +kernel
theorem am_ky149 (pc : Nat) : am_ek 149 pc = true := by
  rcases Nat.lt_or_ge pc 48 with q | q
  · exact am_ek_u am_k149_0 (by omega) (by omega)
  rcases Nat.lt_or_ge pc 96 with q | q
  · exact am_ek_u am_k149_1 (by omega) (by omega)
  rcases Nat.lt_or_ge pc 144 with q | q
  · exact am_ek_u am_k149_2 (by omega) (by omega)
  rcases Nat.lt_or_ge pc 151 with q | q
  · exact am_ek_u am_k149_3 (by omega) (by omega)
  refine am_ek_none ?_
  show (bif Nat.blt pc 151 then am_cr149 pc else none) = none
  exact am_blt_f q _ _
set_option maxRecDepth 100000 in
theorem am_k150_0 : ((List.range 48).map (fun i => am_ek 150 (i + 0))).all id = true := by decide +kernel
set_option maxRecDepth 100000 in
theorem am_k150_1 : ((List.range 48).map (fun i => am_ek 150 (i + 48))).all id = true := by decide +kernel
set_option maxRecDepth 100000 in
theorem am_k150_2 : ((List.range 48).map (fun i => am_ek 150 (i + 96))).all id = true := by decide +kernel
set_option maxRecDepth 100000 in
theorem am_k150_3 : ((List.range 21).map (fun i => am_ek 150 (i + 144))).all id = true := by decide +kernel
theorem am_ky150 (pc : Nat) : am_ek 150 pc = true := by
  rcases Nat.lt_or_ge pc 48 with q | q
  · exact am_ek_u am_k150_0 (by omega) (by omega)
  rcases Nat.lt_or_ge pc 96 with q | q
  · exact am_ek_u am_k150_1 (by omega) (by omega)
  rcases Nat.lt_or_ge pc 144 with q | q
  · exact am_ek_u am_k150_2 (by omega) (by omega)
  rcases Nat.lt_or_ge pc 165 with q | q
  · exact am_ek_u am_k150_3 (by omega) (by omega)
  refine am_ek_none ?_
  show (bif Nat.blt pc 165 then am_cr150 pc else none) = none
  exact am_blt_f q _ _
set_option maxRecDepth 100000 in
theorem am_k151_0 : ((List.range 48).map (fun i => am_ek 151 (i + 0))).all id = true := by decide +kernel
set_option maxRecDepth 100000 in
theorem am_k151_1 : ((List.range 48).map (fun i => am_ek 151 (i + 48))).all id = true := by decide +kernel
set_option maxRecDepth 100000 in
theorem am_k151_2 : ((List.range 24).map (fun i => am_ek 151 (i + 96))).all id = true := by decide +kernel
theorem am_ky151 (pc : Nat) : am_ek 151 pc = true := by
  rcases Nat.lt_or_ge pc 48 with q | q
  · exact am_ek_u am_k151_0 (by omega) (by omega)
  rcases Nat.lt_or_ge pc 96 with q | q
  · exact am_ek_u am_k151_1 (by omega) (by omega)
  rcases Nat.lt_or_ge pc 120 with q | q
  · exact am_ek_u am_k151_2 (by omega) (by omega)
  refine am_ek_none ?_
  show (bif Nat.blt pc 120 then am_cr151 pc else none) = none
  exact am_blt_f q _ _
set_option maxRecDepth 100000 in
theorem am_k152_0 : ((List.range 48).map (fun i => am_ek 152 (i + 0))).all id = true := by decide +kernel
set_option maxRecDepth 100000 in
theorem am_k152_1 : ((List.range 48).map (fun i => am_ek 152 (i + 48))).all id = true := by decide +kernel
set_option maxRecDepth 100000 in
theorem am_k152_2 : ((List.range 48).map (fun i => am_ek 152 (i + 96))).all id = true := by decide +kernel
set_option maxRecDepth 100000 in
theorem am_k152_3 : ((List.range 48).map (fun i => am_ek 152 (i + 144))).all id = true := by decide +kernel
set_option maxRecDepth 100000 in
theorem am_k152_4 : ((List.range 40).map (fun i => am_ek 152 (i + 192))).all id = true := by decide +kernel
theorem am_ky152 (pc : Nat) : am_ek 152 pc = true := by
  rcases Nat.lt_or_ge pc 48 with q | q
  · exact am_ek_u am_k152_0 (by omega) (by omega)
  rcases Nat.lt_or_ge pc 96 with q | q
  · exact am_ek_u am_k152_1 (by omega) (by omega)
  rcases Nat.lt_or_ge pc 144 with q | q
  · exact am_ek_u am_k152_2 (by omega) (by omega)
  rcases Nat.lt_or_ge pc 192 with q | q
  · exact am_ek_u am_k152_3 (by omega) (by omega)
  rcases Nat.lt_or_ge pc 232 with q | q
  · exact am_ek_u am_k152_4 (by omega) (by omega)
  refine am_ek_none ?_
  show (bif Nat.blt pc 232 then am_cr152 pc else none) = none
  exact am_blt_f q _ _
set_option maxRecDepth 100000 in
theorem am_k153_0 : ((List.range 48).map (fun i => am_ek 153 (i + 0))).all id = true := by decide +kernel
set_option maxRecDepth 100000 in
theorem am_k153_1 : ((List.range 11).map (fun i => am_ek 153 (i + 48))).all id = true := by decide +kernel
theorem am_ky153 (pc : Nat) : am_ek 153 pc = true := by
  rcases Nat.lt_or_ge pc 48 with q | q
  · exact am_ek_u am_k153_0 (by omega) (by omega)
  rcases Nat.lt_or_ge pc 59 with q | q
  · exact am_ek_u am_k153_1 (by omega) (by omega)
  refine am_ek_none ?_
  show (bif Nat.blt pc 59 then am_cr153 pc else none) = none
  exact am_blt_f q _ _
set_option maxRecDepth 100000 in
theorem am_k154_0 : ((List.range 48).map (fun i => am_ek 154 (i + 0))).all id = true := by decide +kernel
set_option maxRecDepth 100000 in
theorem am_k154_1 : ((List.range 48).map (fun i => am_ek 154 (i + 48))).all id = true := by decide +kernel
theorem am_ky154 (pc : Nat) : am_ek 154 pc = true := by
  rcases Nat.lt_or_ge pc 48 with q | q
  · exact am_ek_u am_k154_0 (by omega) (by omega)
  rcases Nat.lt_or_ge pc 96 with q | q
  · exact am_ek_u am_k154_1 (by omega) (by omega)
  refine am_ek_none ?_
  show (bif Nat.blt pc 96 then am_cr154 pc else none) = none
  exact am_blt_f q _ _
set_option maxRecDepth 100000 in
theorem am_k155_0 : ((List.range 48).map (fun i => am_ek 155 (i + 0))).all id = true := by decide +kernel
set_option maxRecDepth 100000 in
theorem am_k155_1 : ((List.range 33).map (fun i => am_ek 155 (i + 48))).all id = true := by decide +kernel
theorem am_ky155 (pc : Nat) : am_ek 155 pc = true := by
  rcases Nat.lt_or_ge pc 48 with q | q
  · exact am_ek_u am_k155_0 (by omega) (by omega)
  rcases Nat.lt_or_ge pc 81 with q | q
  · exact am_ek_u am_k155_1 (by omega) (by omega)
  refine am_ek_none ?_
  show (bif Nat.blt pc 81 then am_cr155 pc else none) = none
  exact am_blt_f q _ _
set_option maxRecDepth 100000 in
theorem am_k156_0 : ((List.range 28).map (fun i => am_ek 156 (i + 0))).all id = true := by decide +kernel
theorem am_ky156 (pc : Nat) : am_ek 156 pc = true := by
  rcases Nat.lt_or_ge pc 28 with q | q
  · exact am_ek_u am_k156_0 (by omega) (by omega)
  refine am_ek_none ?_
  show (bif Nat.blt pc 28 then am_cr156 pc else none) = none
  exact am_blt_f q _ _
set_option maxRecDepth 100000 in
theorem am_k157_0 : ((List.range 27).map (fun i => am_ek 157 (i + 0))).all id = true := by decide +kernel
theorem am_ky157 (pc : Nat) : am_ek 157 pc = true := by
  rcases Nat.lt_or_ge pc 27 with q | q
  · exact am_ek_u am_k157_0 (by omega) (by omega)
  refine am_ek_none ?_
  show (bif Nat.blt pc 27 then am_cr157 pc else none) = none
  exact am_blt_f q _ _
set_option maxRecDepth 100000 in
theorem am_k158_0 : ((List.range 27).map (fun i => am_ek 158 (i + 0))).all id = true := by decide +kernel
theorem am_ky158 (pc : Nat) : am_ek 158 pc = true := by
  rcases Nat.lt_or_ge pc 27 with q | q
  · exact am_ek_u am_k158_0 (by omega) (by omega)
  refine am_ek_none ?_
  show (bif Nat.blt pc 27 then am_cr158 pc else none) = none
  exact am_blt_f q _ _
set_option maxRecDepth 100000 in
theorem am_k159_0 : ((List.range 48).map (fun i => am_ek 159 (i + 0))).all id = true := by decide +kernel
set_option maxRecDepth 100000 in
theorem am_k159_1 : ((List.range 16).map (fun i => am_ek 159 (i + 48))).all id = true := by decide +kernel
theorem am_ky159 (pc : Nat) : am_ek 159 pc = true := by
  rcases Nat.lt_or_ge pc 48 with q | q
  · exact am_ek_u am_k159_0 (by omega) (by omega)
  rcases Nat.lt_or_ge pc 64 with q | q
  · exact am_ek_u am_k159_1 (by omega) (by omega)
  refine am_ek_none ?_
  show (bif Nat.blt pc 64 then am_cr159 pc else none) = none
  exact am_blt_f q _ _
set_option maxRecDepth 100000 in
theorem am_k160_0 : ((List.range 39).map (fun i => am_ek 160 (i + 0))).all id = true := by decide +kernel
theorem am_ky160 (pc : Nat) : am_ek 160 pc = true := by
  rcases Nat.lt_or_ge pc 39 with q | q
  · exact am_ek_u am_k160_0 (by omega) (by omega)
  refine am_ek_none ?_
  show (bif Nat.blt pc 39 then am_cr160 pc else none) = none
  exact am_blt_f q _ _
set_option maxRecDepth 100000 in
theorem am_k161_0 : ((List.range 48).map (fun i => am_ek 161 (i + 0))).all id = true := by decide +kernel
set_option maxRecDepth 100000 in
theorem am_k161_1 : ((List.range 6).map (fun i => am_ek 161 (i + 48))).all id = true := by decide +kernel
theorem am_ky161 (pc : Nat) : am_ek 161 pc = true := by
  rcases Nat.lt_or_ge pc 48 with q | q
  · exact am_ek_u am_k161_0 (by omega) (by omega)
  rcases Nat.lt_or_ge pc 54 with q | q
  · exact am_ek_u am_k161_1 (by omega) (by omega)
  refine am_ek_none ?_
  show (bif Nat.blt pc 54 then am_cr161 pc else none) = none
  exact am_blt_f q _ _
set_option maxRecDepth 100000 in
theorem am_k162_0 : ((List.range 9).map (fun i => am_ek 162 (i + 0))).all id = true := by decide +kernel
theorem am_ky162 (pc : Nat) : am_ek 162 pc = true := by
  rcases Nat.lt_or_ge pc 9 with q | q
  · exact am_ek_u am_k162_0 (by omega) (by omega)
  refine am_ek_none ?_
  show (bif Nat.blt pc 9 then am_cr162 pc else none) = none
  exact am_blt_f q _ _
set_option maxRecDepth 100000 in
theorem am_k163_0 : ((List.range 18).map (fun i => am_ek 163 (i + 0))).all id = true := by decide +kernel
theorem am_ky163 (pc : Nat) : am_ek 163 pc = true := by
  rcases Nat.lt_or_ge pc 18 with q | q
  · exact am_ek_u am_k163_0 (by omega) (by omega)
  refine am_ek_none ?_
  show (bif Nat.blt pc 18 then am_cr163 pc else none) = none
  exact am_blt_f q _ _
set_option maxRecDepth 100000 in
theorem am_k164_0 : ((List.range 18).map (fun i => am_ek 164 (i + 0))).all id = true := by decide +kernel
theorem am_ky164 (pc : Nat) : am_ek 164 pc = true := by
  rcases Nat.lt_or_ge pc 18 with q | q
  · exact am_ek_u am_k164_0 (by omega) (by omega)
  refine am_ek_none ?_
  show (bif Nat.blt pc 18 then am_cr164 pc else none) = none
  exact am_blt_f q _ _
set_option maxRecDepth 100000 in
theorem am_k165_0 : ((List.range 30).map (fun i => am_ek 165 (i + 0))).all id = true := by decide +kernel
theorem am_ky165 (pc : Nat) : am_ek 165 pc = true := by
  rcases Nat.lt_or_ge pc 30 with q | q
  · exact am_ek_u am_k165_0 (by omega) (by omega)
  refine am_ek_none ?_
  show (bif Nat.blt pc 30 then am_cr165 pc else none) = none
  exact am_blt_f q _ _
set_option maxRecDepth 100000 in
theorem am_k166_0 : ((List.range 24).map (fun i => am_ek 166 (i + 0))).all id = true := by decide +kernel
theorem am_ky166 (pc : Nat) : am_ek 166 pc = true := by
  rcases Nat.lt_or_ge pc 24 with q | q
  · exact am_ek_u am_k166_0 (by omega) (by omega)
  refine am_ek_none ?_
  show (bif Nat.blt pc 24 then am_cr166 pc else none) = none
  exact am_blt_f q _ _
set_option maxRecDepth 100000 in
theorem am_k167_0 : ((List.range 48).map (fun i => am_ek 167 (i + 0))).all id = true := by decide +kernel
set_option maxRecDepth 100000 in
theorem am_k167_1 : ((List.range 48).map (fun i => am_ek 167 (i + 48))).all id = true := by decide +kernel
set_option maxRecDepth 100000 in
theorem am_k167_2 : ((List.range 43).map (fun i => am_ek 167 (i + 96))).all id = true := by decide +kernel
theorem am_ky167 (pc : Nat) : am_ek 167 pc = true := by
  rcases Nat.lt_or_ge pc 48 with q | q
  · exact am_ek_u am_k167_0 (by omega) (by omega)
  rcases Nat.lt_or_ge pc 96 with q | q
  · exact am_ek_u am_k167_1 (by omega) (by omega)
  rcases Nat.lt_or_ge pc 139 with q | q
  · exact am_ek_u am_k167_2 (by omega) (by omega)
  refine am_ek_none ?_
  show (bif Nat.blt pc 139 then am_cr167 pc else none) = none
  exact am_blt_f q _ _
set_option maxRecDepth 100000 in
theorem am_k168_0 : ((List.range 48).map (fun i => am_ek 168 (i + 0))).all id = true := by decide +kernel
set_option maxRecDepth 100000 in
theorem am_k168_1 : ((List.range 48).map (fun i => am_ek 168 (i + 48))).all id = true := by decide +kernel
set_option maxRecDepth 100000 in
theorem am_k168_2 : ((List.range 10).map (fun i => am_ek 168 (i + 96))).all id = true := by decide +kernel
theorem am_ky168 (pc : Nat) : am_ek 168 pc = true := by
  rcases Nat.lt_or_ge pc 48 with q | q
  · exact am_ek_u am_k168_0 (by omega) (by omega)
  rcases Nat.lt_or_ge pc 96 with q | q
  · exact am_ek_u am_k168_1 (by omega) (by omega)
  rcases Nat.lt_or_ge pc 106 with q | q
  · exact am_ek_u am_k168_2 (by omega) (by omega)
  refine am_ek_none ?_
  show (bif Nat.blt pc 106 then am_cr168 pc else none) = none
  exact am_blt_f q _ _
set_option maxRecDepth 100000 in
theorem am_k169_0 : ((List.range 48).map (fun i => am_ek 169 (i + 0))).all id = true := by decide +kernel
set_option maxRecDepth 100000 in
theorem am_k169_1 : ((List.range 38).map (fun i => am_ek 169 (i + 48))).all id = true := by decide +kernel
theorem am_ky169 (pc : Nat) : am_ek 169 pc = true := by
  rcases Nat.lt_or_ge pc 48 with q | q
  · exact am_ek_u am_k169_0 (by omega) (by omega)
  rcases Nat.lt_or_ge pc 86 with q | q
  · exact am_ek_u am_k169_1 (by omega) (by omega)
  refine am_ek_none ?_
  show (bif Nat.blt pc 86 then am_cr169 pc else none) = none
  exact am_blt_f q _ _
set_option maxRecDepth 100000 in
theorem am_k170_0 : ((List.range 48).map (fun i => am_ek 170 (i + 0))).all id = true := by decide +kernel
set_option maxRecDepth 100000 in
theorem am_k170_1 : ((List.range 48).map (fun i => am_ek 170 (i + 48))).all id = true := by decide +kernel
set_option maxRecDepth 100000 in
theorem am_k170_2 : ((List.range 40).map (fun i => am_ek 170 (i + 96))).all id = true := by decide +kernel
theorem am_ky170 (pc : Nat) : am_ek 170 pc = true := by
  rcases Nat.lt_or_ge pc 48 with q | q
  · exact am_ek_u am_k170_0 (by omega) (by omega)
  rcases Nat.lt_or_ge pc 96 with q | q
  · exact am_ek_u am_k170_1 (by omega) (by omega)
  rcases Nat.lt_or_ge pc 136 with q | q
  · exact am_ek_u am_k170_2 (by omega) (by omega)
  refine am_ek_none ?_
  show (bif Nat.blt pc 136 then am_cr170 pc else none) = none
  exact am_blt_f q _ _
set_option maxRecDepth 100000 in
theorem am_k171_0 : ((List.range 48).map (fun i => am_ek 171 (i + 0))).all id = true := by decide +kernel
set_option maxRecDepth 100000 in
theorem am_k171_1 : ((List.range 48).map (fun i => am_ek 171 (i + 48))).all id = true := by decide +kernel
set_option maxRecDepth 100000 in
theorem am_k171_2 : ((List.range 24).map (fun i => am_ek 171 (i + 96))).all id = true := by decide +kernel
theorem am_ky171 (pc : Nat) : am_ek 171 pc = true := by
  rcases Nat.lt_or_ge pc 48 with q | q
  · exact am_ek_u am_k171_0 (by omega) (by omega)
  rcases Nat.lt_or_ge pc 96 with q | q
  · exact am_ek_u am_k171_1 (by omega) (by omega)
  rcases Nat.lt_or_ge pc 120 with q | q
  · exact am_ek_u am_k171_2 (by omega) (by omega)
  refine am_ek_none ?_
  show (bif Nat.blt pc 120 then am_cr171 pc else none) = none
  exact am_blt_f q _ _
set_option maxRecDepth 100000 in
theorem am_k172_0 : ((List.range 48).map (fun i => am_ek 172 (i + 0))).all id = true := by decide +kernel
set_option maxRecDepth 100000 in
theorem am_k172_1 : ((List.range 29).map (fun i => am_ek 172 (i + 48))).all id = true := by decide +kernel
theorem am_ky172 (pc : Nat) : am_ek 172 pc = true := by
  rcases Nat.lt_or_ge pc 48 with q | q
  · exact am_ek_u am_k172_0 (by omega) (by omega)
  rcases Nat.lt_or_ge pc 77 with q | q
  · exact am_ek_u am_k172_1 (by omega) (by omega)
  refine am_ek_none ?_
  show (bif Nat.blt pc 77 then am_cr172 pc else none) = none
  exact am_blt_f q _ _
set_option maxRecDepth 100000 in
theorem am_k173_0 : ((List.range 16).map (fun i => am_ek 173 (i + 0))).all id = true := by decide +kernel
theorem am_ky173 (pc : Nat) : am_ek 173 pc = true := by
  rcases Nat.lt_or_ge pc 16 with q | q
  · exact am_ek_u am_k173_0 (by omega) (by omega)
  refine am_ek_none ?_
  show (bif Nat.blt pc 16 then am_cr173 pc else none) = none
  exact am_blt_f q _ _
set_option maxRecDepth 100000 in
theorem am_k174_0 : ((List.range 48).map (fun i => am_ek 174 (i + 0))).all id = true := by decide +kernel
set_option maxRecDepth 100000 in
theorem am_k174_1 : ((List.range 10).map (fun i => am_ek 174 (i + 48))).all id = true := by decide +kernel
theorem am_ky174 (pc : Nat) : am_ek 174 pc = true := by
  rcases Nat.lt_or_ge pc 48 with q | q
  · exact am_ek_u am_k174_0 (by omega) (by omega)
  rcases Nat.lt_or_ge pc 58 with q | q
  · exact am_ek_u am_k174_1 (by omega) (by omega)
  refine am_ek_none ?_
  show (bif Nat.blt pc 58 then am_cr174 pc else none) = none
  exact am_blt_f q _ _
set_option maxRecDepth 100000 in
theorem am_k175_0 : ((List.range 48).map (fun i => am_ek 175 (i + 0))).all id = true := by decide +kernel
set_option maxRecDepth 100000 in
theorem am_k175_1 : ((List.range 5).map (fun i => am_ek 175 (i + 48))).all id = true := by decide +kernel
theorem am_ky175 (pc : Nat) : am_ek 175 pc = true := by
  rcases Nat.lt_or_ge pc 48 with q | q
  · exact am_ek_u am_k175_0 (by omega) (by omega)
  rcases Nat.lt_or_ge pc 53 with q | q
  · exact am_ek_u am_k175_1 (by omega) (by omega)
  refine am_ek_none ?_
  show (bif Nat.blt pc 53 then am_cr175 pc else none) = none
  exact am_blt_f q _ _
set_option maxRecDepth 100000 in
theorem am_k176_0 : ((List.range 18).map (fun i => am_ek 176 (i + 0))).all id = true := by decide +kernel
theorem am_ky176 (pc : Nat) : am_ek 176 pc = true := by
  rcases Nat.lt_or_ge pc 18 with q | q
  · exact am_ek_u am_k176_0 (by omega) (by omega)
  refine am_ek_none ?_
  show (bif Nat.blt pc 18 then am_cr176 pc else none) = none
  exact am_blt_f q _ _
set_option maxRecDepth 100000 in
theorem am_k177_0 : ((List.range 48).map (fun i => am_ek 177 (i + 0))).all id = true := by decide +kernel
set_option maxRecDepth 100000 in
theorem am_k177_1 : ((List.range 35).map (fun i => am_ek 177 (i + 48))).all id = true := by decide +kernel
theorem am_ky177 (pc : Nat) : am_ek 177 pc = true := by
  rcases Nat.lt_or_ge pc 48 with q | q
  · exact am_ek_u am_k177_0 (by omega) (by omega)
  rcases Nat.lt_or_ge pc 83 with q | q
  · exact am_ek_u am_k177_1 (by omega) (by omega)
  refine am_ek_none ?_
  show (bif Nat.blt pc 83 then am_cr177 pc else none) = none
  exact am_blt_f q _ _
set_option maxRecDepth 100000 in
theorem am_k178_0 : ((List.range 48).map (fun i => am_ek 178 (i + 0))).all id = true := by decide +kernel
set_option maxRecDepth 100000 in
theorem am_k178_1 : ((List.range 48).map (fun i => am_ek 178 (i + 48))).all id = true := by decide +kernel
set_option maxRecDepth 100000 in
theorem am_k178_2 : ((List.range 12).map (fun i => am_ek 178 (i + 96))).all id = true := by decide +kernel
theorem am_ky178 (pc : Nat) : am_ek 178 pc = true := by
  rcases Nat.lt_or_ge pc 48 with q | q
  · exact am_ek_u am_k178_0 (by omega) (by omega)
  rcases Nat.lt_or_ge pc 96 with q | q
  · exact am_ek_u am_k178_1 (by omega) (by omega)
  rcases Nat.lt_or_ge pc 108 with q | q
  · exact am_ek_u am_k178_2 (by omega) (by omega)
  refine am_ek_none ?_
  show (bif Nat.blt pc 108 then am_cr178 pc else none) = none
  exact am_blt_f q _ _
set_option maxRecDepth 100000 in
theorem am_k179_0 : ((List.range 16).map (fun i => am_ek 179 (i + 0))).all id = true := by decide +kernel
theorem am_ky179 (pc : Nat) : am_ek 179 pc = true := by
  rcases Nat.lt_or_ge pc 16 with q | q
  · exact am_ek_u am_k179_0 (by omega) (by omega)
  refine am_ek_none ?_
  show (bif Nat.blt pc 16 then am_cr179 pc else none) = none
  exact am_blt_f q _ _
set_option maxRecDepth 100000 in
theorem am_k180_0 : ((List.range 48).map (fun i => am_ek 180 (i + 0))).all id = true := by decide +kernel
set_option maxRecDepth 100000 in
theorem am_k180_1 : ((List.range 48).map (fun i => am_ek 180 (i + 48))).all id = true := by decide +kernel
set_option maxRecDepth 100000 in
theorem am_k180_2 : ((List.range 48).map (fun i => am_ek 180 (i + 96))).all id = true := by decide +kernel
set_option maxRecDepth 100000 in
theorem am_k180_3 : ((List.range 10).map (fun i => am_ek 180 (i + 144))).all id = true := by decide +kernel
theorem am_ky180 (pc : Nat) : am_ek 180 pc = true := by
  rcases Nat.lt_or_ge pc 48 with q | q
  · exact am_ek_u am_k180_0 (by omega) (by omega)
  rcases Nat.lt_or_ge pc 96 with q | q
  · exact am_ek_u am_k180_1 (by omega) (by omega)
  rcases Nat.lt_or_ge pc 144 with q | q
  · exact am_ek_u am_k180_2 (by omega) (by omega)
  rcases Nat.lt_or_ge pc 154 with q | q
  · exact am_ek_u am_k180_3 (by omega) (by omega)
  refine am_ek_none ?_
  show (bif Nat.blt pc 154 then am_cr180 pc else none) = none
  exact am_blt_f q _ _
set_option maxRecDepth 100000 in
theorem am_k181_0 : ((List.range 48).map (fun i => am_ek 181 (i + 0))).all id = true := by decide +kernel
set_option maxRecDepth 100000 in
theorem am_k181_1 : ((List.range 48).map (fun i => am_ek 181 (i + 48))).all id = true := by decide +kernel
set_option maxRecDepth 100000 in
theorem am_k181_2 : ((List.range 48).map (fun i => am_ek 181 (i + 96))).all id = true := by decide +kernel
set_option maxRecDepth 100000 in
theorem am_k181_3 : ((List.range 48).map (fun i => am_ek 181 (i + 144))).all id = true := by decide +kernel
set_option maxRecDepth 100000 in
theorem am_k181_4 : ((List.range 48).map (fun i => am_ek 181 (i + 192))).all id = true := by decide +kernel
set_option maxRecDepth 100000 in
theorem am_k181_5 : ((List.range 20).map (fun i => am_ek 181 (i + 240))).all id = true := by decide +kernel
theorem am_ky181 (pc : Nat) : am_ek 181 pc = true := by
  rcases Nat.lt_or_ge pc 48 with q | q
  · exact am_ek_u am_k181_0 (by omega) (by omega)
  rcases Nat.lt_or_ge pc 96 with q | q
  · exact am_ek_u am_k181_1 (by omega) (by omega)
  rcases Nat.lt_or_ge pc 144 with q | q
  · exact am_ek_u am_k181_2 (by omega) (by omega)
  rcases Nat.lt_or_ge pc 192 with q | q
  · exact am_ek_u am_k181_3 (by omega) (by omega)
  rcases Nat.lt_or_ge pc 240 with q | q
  · exact am_ek_u am_k181_4 (by omega) (by omega)
  rcases Nat.lt_or_ge pc 260 with q | q
  · exact am_ek_u am_k181_5 (by omega) (by omega)
  refine am_ek_none ?_
  show (bif Nat.blt pc 260 then am_cr181 pc else none) = none
  exact am_blt_f q _ _
set_option maxRecDepth 100000 in
theorem am_k182_0 : ((List.range 48).map (fun i => am_ek 182 (i + 0))).all id = true := by decide +kernel
set_option maxRecDepth 100000 in
theorem am_k182_1 : ((List.range 48).map (fun i => am_ek 182 (i + 48))).all id = true := by decide +kernel
set_option maxRecDepth 100000 in
theorem am_k182_2 : ((List.range 48).map (fun i => am_ek 182 (i + 96))).all id = true := by decide +kernel
set_option maxRecDepth 100000 in
theorem am_k182_3 : ((List.range 33).map (fun i => am_ek 182 (i + 144))).all id = true := by decide +kernel
theorem am_ky182 (pc : Nat) : am_ek 182 pc = true := by
  rcases Nat.lt_or_ge pc 48 with q | q
  · exact am_ek_u am_k182_0 (by omega) (by omega)
  rcases Nat.lt_or_ge pc 96 with q | q
  · exact am_ek_u am_k182_1 (by omega) (by omega)
  rcases Nat.lt_or_ge pc 144 with q | q
  · exact am_ek_u am_k182_2 (by omega) (by omega)
  rcases Nat.lt_or_ge pc 177 with q | q
  · exact am_ek_u am_k182_3 (by omega) (by omega)
  refine am_ek_none ?_
  show (bif Nat.blt pc 177 then am_cr182 pc else none) = none
  exact am_blt_f q _ _
set_option maxRecDepth 100000 in
theorem am_k183_0 : ((List.range 48).map (fun i => am_ek 183 (i + 0))).all id = true := by decide +kernel
set_option maxRecDepth 100000 in
theorem am_k183_1 : ((List.range 46).map (fun i => am_ek 183 (i + 48))).all id = true := by decide +kernel
theorem am_ky183 (pc : Nat) : am_ek 183 pc = true := by
  rcases Nat.lt_or_ge pc 48 with q | q
  · exact am_ek_u am_k183_0 (by omega) (by omega)
  rcases Nat.lt_or_ge pc 94 with q | q
  · exact am_ek_u am_k183_1 (by omega) (by omega)
  refine am_ek_none ?_
  show (bif Nat.blt pc 94 then am_cr183 pc else none) = none
  exact am_blt_f q _ _
set_option maxRecDepth 100000 in
theorem am_k184_0 : ((List.range 33).map (fun i => am_ek 184 (i + 0))).all id = true := by decide +kernel
theorem am_ky184 (pc : Nat) : am_ek 184 pc = true := by
  rcases Nat.lt_or_ge pc 33 with q | q
  · exact am_ek_u am_k184_0 (by omega) (by omega)
  refine am_ek_none ?_
  show (bif Nat.blt pc 33 then am_cr184 pc else none) = none
  exact am_blt_f q _ _
set_option maxRecDepth 100000 in
theorem am_k185_0 : ((List.range 40).map (fun i => am_ek 185 (i + 0))).all id = true := by decide +kernel
theorem am_ky185 (pc : Nat) : am_ek 185 pc = true := by
  rcases Nat.lt_or_ge pc 40 with q | q
  · exact am_ek_u am_k185_0 (by omega) (by omega)
  refine am_ek_none ?_
  show (bif Nat.blt pc 40 then am_cr185 pc else none) = none
  exact am_blt_f q _ _
set_option maxRecDepth 100000 in
theorem am_k186_0 : ((List.range 48).map (fun i => am_ek 186 (i + 0))).all id = true := by decide +kernel
set_option maxRecDepth 100000 in
theorem am_k186_1 : ((List.range 2).map (fun i => am_ek 186 (i + 48))).all id = true := by decide +kernel
theorem am_ky186 (pc : Nat) : am_ek 186 pc = true := by
  rcases Nat.lt_or_ge pc 48 with q | q
  · exact am_ek_u am_k186_0 (by omega) (by omega)
  rcases Nat.lt_or_ge pc 50 with q | q
  · exact am_ek_u am_k186_1 (by omega) (by omega)
  refine am_ek_none ?_
  show (bif Nat.blt pc 50 then am_cr186 pc else none) = none
  exact am_blt_f q _ _
set_option maxRecDepth 100000 in
theorem am_k187_0 : ((List.range 48).map (fun i => am_ek 187 (i + 0))).all id = true := by decide +kernel
set_option maxRecDepth 100000 in
theorem am_k187_1 : ((List.range 38).map (fun i => am_ek 187 (i + 48))).all id = true := by decide +kernel
theorem am_ky187 (pc : Nat) : am_ek 187 pc = true := by
  rcases Nat.lt_or_ge pc 48 with q | q
  · exact am_ek_u am_k187_0 (by omega) (by omega)
  rcases Nat.lt_or_ge pc 86 with q | q
  · exact am_ek_u am_k187_1 (by omega) (by omega)
  refine am_ek_none ?_
  show (bif Nat.blt pc 86 then am_cr187 pc else none) = none
  exact am_blt_f q _ _
set_option maxRecDepth 100000 in
theorem am_k188_0 : ((List.range 29).map (fun i => am_ek 188 (i + 0))).all id = true := by decide +kernel
theorem am_ky188 (pc : Nat) : am_ek 188 pc = true := by
  rcases Nat.lt_or_ge pc 29 with q | q
  · exact am_ek_u am_k188_0 (by omega) (by omega)
  refine am_ek_none ?_
  show (bif Nat.blt pc 29 then am_cr188 pc else none) = none
  exact am_blt_f q _ _
set_option maxRecDepth 100000 in
theorem am_k189_0 : ((List.range 16).map (fun i => am_ek 189 (i + 0))).all id = true := by decide +kernel
theorem am_ky189 (pc : Nat) : am_ek 189 pc = true := by
  rcases Nat.lt_or_ge pc 16 with q | q
  · exact am_ek_u am_k189_0 (by omega) (by omega)
  refine am_ek_none ?_
  show (bif Nat.blt pc 16 then am_cr189 pc else none) = none
  exact am_blt_f q _ _
set_option maxRecDepth 100000 in
theorem am_k190_0 : ((List.range 48).map (fun i => am_ek 190 (i + 0))).all id = true := by decide +kernel
set_option maxRecDepth 100000 in
theorem am_k190_1 : ((List.range 30).map (fun i => am_ek 190 (i + 48))).all id = true := by decide +kernel
theorem am_ky190 (pc : Nat) : am_ek 190 pc = true := by
  rcases Nat.lt_or_ge pc 48 with q | q
  · exact am_ek_u am_k190_0 (by omega) (by omega)
  rcases Nat.lt_or_ge pc 78 with q | q
  · exact am_ek_u am_k190_1 (by omega) (by omega)
  refine am_ek_none ?_
  show (bif Nat.blt pc 78 then am_cr190 pc else none) = none
  exact am_blt_f q _ _
set_option maxRecDepth 100000 in
theorem am_k191_0 : ((List.range 16).map (fun i => am_ek 191 (i + 0))).all id = true := by decide +kernel
theorem am_ky191 (pc : Nat) : am_ek 191 pc = true := by
  rcases Nat.lt_or_ge pc 16 with q | q
  · exact am_ek_u am_k191_0 (by omega) (by omega)
  refine am_ek_none ?_
  show (bif Nat.blt pc 16 then am_cr191 pc else none) = none
  exact am_blt_f q _ _
set_option maxRecDepth 100000 in
theorem am_k192_0 : ((List.range 26).map (fun i => am_ek 192 (i + 0))).all id = true := by decide +kernel
theorem am_ky192 (pc : Nat) : am_ek 192 pc = true := by
  rcases Nat.lt_or_ge pc 26 with q | q
  · exact am_ek_u am_k192_0 (by omega) (by omega)
  refine am_ek_none ?_
  show (bif Nat.blt pc 26 then am_cr192 pc else none) = none
  exact am_blt_f q _ _
set_option maxRecDepth 100000 in
theorem am_k193_0 : ((List.range 16).map (fun i => am_ek 193 (i + 0))).all id = true := by decide +kernel
theorem am_ky193 (pc : Nat) : am_ek 193 pc = true := by
  rcases Nat.lt_or_ge pc 16 with q | q
  · exact am_ek_u am_k193_0 (by omega) (by omega)
  refine am_ek_none ?_
  show (bif Nat.blt pc 16 then am_cr193 pc else none) = none
  exact am_blt_f q _ _
set_option maxRecDepth 100000 in
theorem am_k194_0 : ((List.range 30).map (fun i => am_ek 194 (i + 0))).all id = true := by decide +kernel
theorem am_ky194 (pc : Nat) : am_ek 194 pc = true := by
  rcases Nat.lt_or_ge pc 30 with q | q
  · exact am_ek_u am_k194_0 (by omega) (by omega)
  refine am_ek_none ?_
  show (bif Nat.blt pc 30 then am_cr194 pc else none) = none
  exact am_blt_f q _ _
set_option maxRecDepth 100000 in
theorem am_k195_0 : ((List.range 42).map (fun i => am_ek 195 (i + 0))).all id = true := by decide +kernel
theorem am_ky195 (pc : Nat) : am_ek 195 pc = true := by
  rcases Nat.lt_or_ge pc 42 with q | q
  · exact am_ek_u am_k195_0 (by omega) (by omega)
  refine am_ek_none ?_
  show (bif Nat.blt pc 42 then am_cr195 pc else none) = none
  exact am_blt_f q _ _
set_option maxRecDepth 100000 in
theorem am_k196_0 : ((List.range 48).map (fun i => am_ek 196 (i + 0))).all id = true := by decide +kernel
set_option maxRecDepth 100000 in
theorem am_k196_1 : ((List.range 48).map (fun i => am_ek 196 (i + 48))).all id = true := by decide +kernel
set_option maxRecDepth 100000 in
theorem am_k196_2 : ((List.range 40).map (fun i => am_ek 196 (i + 96))).all id = true := by decide +kernel
theorem am_ky196 (pc : Nat) : am_ek 196 pc = true := by
  rcases Nat.lt_or_ge pc 48 with q | q
  · exact am_ek_u am_k196_0 (by omega) (by omega)
  rcases Nat.lt_or_ge pc 96 with q | q
  · exact am_ek_u am_k196_1 (by omega) (by omega)
  rcases Nat.lt_or_ge pc 136 with q | q
  · exact am_ek_u am_k196_2 (by omega) (by omega)
  refine am_ek_none ?_
  show (bif Nat.blt pc 136 then am_cr196 pc else none) = none
  exact am_blt_f q _ _
set_option maxRecDepth 100000 in
theorem am_k197_0 : ((List.range 48).map (fun i => am_ek 197 (i + 0))).all id = true := by decide +kernel
set_option maxRecDepth 100000 in
theorem am_k197_1 : ((List.range 48).map (fun i => am_ek 197 (i + 48))).all id = true := by decide +kernel
set_option maxRecDepth 100000 in
theorem am_k197_2 : ((List.range 48).map (fun i => am_ek 197 (i + 96))).all id = true := by decide +kernel
set_option maxRecDepth 100000 in
theorem am_k197_3 : ((List.range 48).map (fun i => am_ek 197 (i + 144))).all id = true := by decide +kernel
set_option maxRecDepth 100000 in
theorem am_k197_4 : ((List.range 24).map (fun i => am_ek 197 (i + 192))).all id = true := by decide +kernel
theorem am_ky197 (pc : Nat) : am_ek 197 pc = true := by
  rcases Nat.lt_or_ge pc 48 with q | q
  · exact am_ek_u am_k197_0 (by omega) (by omega)
  rcases Nat.lt_or_ge pc 96 with q | q
  · exact am_ek_u am_k197_1 (by omega) (by omega)
  rcases Nat.lt_or_ge pc 144 with q | q
  · exact am_ek_u am_k197_2 (by omega) (by omega)
  rcases Nat.lt_or_ge pc 192 with q | q
  · exact am_ek_u am_k197_3 (by omega) (by omega)
  rcases Nat.lt_or_ge pc 216 with q | q
  · exact am_ek_u am_k197_4 (by omega) (by omega)
  refine am_ek_none ?_
  show (bif Nat.blt pc 216 then am_cr197 pc else none) = none
  exact am_blt_f q _ _
set_option maxRecDepth 100000 in
theorem am_k198_0 : ((List.range 48).map (fun i => am_ek 198 (i + 0))).all id = true := by decide +kernel
set_option maxRecDepth 100000 in
theorem am_k198_1 : ((List.range 28).map (fun i => am_ek 198 (i + 48))).all id = true := by decide +kernel
theorem am_ky198 (pc : Nat) : am_ek 198 pc = true := by
  rcases Nat.lt_or_ge pc 48 with q | q
  · exact am_ek_u am_k198_0 (by omega) (by omega)
  rcases Nat.lt_or_ge pc 76 with q | q
  · exact am_ek_u am_k198_1 (by omega) (by omega)
  refine am_ek_none ?_
  show (bif Nat.blt pc 76 then am_cr198 pc else none) = none
  exact am_blt_f q _ _
set_option maxRecDepth 100000 in
theorem am_k199_0 : ((List.range 33).map (fun i => am_ek 199 (i + 0))).all id = true := by decide +kernel
theorem am_ky199 (pc : Nat) : am_ek 199 pc = true := by
  rcases Nat.lt_or_ge pc 33 with q | q
  · exact am_ek_u am_k199_0 (by omega) (by omega)
  refine am_ek_none ?_
  show (bif Nat.blt pc 33 then am_cr199 pc else none) = none
  exact am_blt_f q _ _
set_option maxRecDepth 100000 in
theorem am_k200_0 : ((List.range 48).map (fun i => am_ek 200 (i + 0))).all id = true := by decide +kernel
set_option maxRecDepth 100000 in
theorem am_k200_1 : ((List.range 47).map (fun i => am_ek 200 (i + 48))).all id = true := by decide +kernel
theorem am_ky200 (pc : Nat) : am_ek 200 pc = true := by
  rcases Nat.lt_or_ge pc 48 with q | q
  · exact am_ek_u am_k200_0 (by omega) (by omega)
  rcases Nat.lt_or_ge pc 95 with q | q
  · exact am_ek_u am_k200_1 (by omega) (by omega)
  refine am_ek_none ?_
  show (bif Nat.blt pc 95 then am_cr200 pc else none) = none
  exact am_blt_f q _ _
set_option maxRecDepth 100000 in
theorem am_k201_0 : ((List.range 16).map (fun i => am_ek 201 (i + 0))).all id = true := by decide +kernel
theorem am_ky201 (pc : Nat) : am_ek 201 pc = true := by
  rcases Nat.lt_or_ge pc 16 with q | q
  · exact am_ek_u am_k201_0 (by omega) (by omega)
  refine am_ek_none ?_
  show (bif Nat.blt pc 16 then am_cr201 pc else none) = none
  exact am_blt_f q _ _
set_option maxRecDepth 100000 in
theorem am_k202_0 : ((List.range 48).map (fun i => am_ek 202 (i + 0))).all id = true := by decide +kernel
set_option maxRecDepth 100000 in
theorem am_k202_1 : ((List.range 48).map (fun i => am_ek 202 (i + 48))).all id = true := by decide +kernel
set_option maxRecDepth 100000 in
theorem am_k202_2 : ((List.range 48).map (fun i => am_ek 202 (i + 96))).all id = true := by decide +kernel
set_option maxRecDepth 100000 in
theorem am_k202_3 : ((List.range 48).map (fun i => am_ek 202 (i + 144))).all id = true := by decide +kernel
set_option maxRecDepth 100000 in
theorem am_k202_4 : ((List.range 48).map (fun i => am_ek 202 (i + 192))).all id = true := by decide +kernel
set_option maxRecDepth 100000 in
theorem am_k202_5 : ((List.range 48).map (fun i => am_ek 202 (i + 240))).all id = true := by decide +kernel
set_option maxRecDepth 100000 in
theorem am_k202_6 : ((List.range 48).map (fun i => am_ek 202 (i + 288))).all id = true := by decide +kernel
set_option maxRecDepth 100000 in
theorem am_k202_7 : ((List.range 48).map (fun i => am_ek 202 (i + 336))).all id = true := by decide +kernel
set_option maxRecDepth 100000 in
theorem am_k202_8 : ((List.range 26).map (fun i => am_ek 202 (i + 384))).all id = true := by decide +kernel
theorem am_ky202 (pc : Nat) : am_ek 202 pc = true := by
  rcases Nat.lt_or_ge pc 48 with q | q
  · exact am_ek_u am_k202_0 (by omega) (by omega)
  rcases Nat.lt_or_ge pc 96 with q | q
  · exact am_ek_u am_k202_1 (by omega) (by omega)
  rcases Nat.lt_or_ge pc 144 with q | q
  · exact am_ek_u am_k202_2 (by omega) (by omega)
  rcases Nat.lt_or_ge pc 192 with q | q
  · exact am_ek_u am_k202_3 (by omega) (by omega)
  rcases Nat.lt_or_ge pc 240 with q | q
  · exact am_ek_u am_k202_4 (by omega) (by omega)
  rcases Nat.lt_or_ge pc 288 with q | q
  · exact am_ek_u am_k202_5 (by omega) (by omega)
  rcases Nat.lt_or_ge pc 336 with q | q
  · exact am_ek_u am_k202_6 (by omega) (by omega)
  rcases Nat.lt_or_ge pc 384 with q | q
  · exact am_ek_u am_k202_7 (by omega) (by omega)
  rcases Nat.lt_or_ge pc 410 with q | q
  · exact am_ek_u am_k202_8 (by omega) (by omega)
  refine am_ek_none ?_
  show (bif Nat.blt pc 410 then am_cr202 pc else none) = none
  exact am_blt_f q _ _
set_option maxRecDepth 100000 in
theorem am_k203_0 : ((List.range 48).map (fun i => am_ek 203 (i + 0))).all id = true := by decide +kernel
set_option maxRecDepth 100000 in
theorem am_k203_1 : ((List.range 48).map (fun i => am_ek 203 (i + 48))).all id = true := by decide +kernel
set_option maxRecDepth 100000 in
theorem am_k203_2 : ((List.range 48).map (fun i => am_ek 203 (i + 96))).all id = true := by decide +kernel
set_option maxRecDepth 100000 in
theorem am_k203_3 : ((List.range 41).map (fun i => am_ek 203 (i + 144))).all id = true := by decide +kernel
theorem am_ky203 (pc : Nat) : am_ek 203 pc = true := by
  rcases Nat.lt_or_ge pc 48 with q | q
  · exact am_ek_u am_k203_0 (by omega) (by omega)
  rcases Nat.lt_or_ge pc 96 with q | q
  · exact am_ek_u am_k203_1 (by omega) (by omega)
  rcases Nat.lt_or_ge pc 144 with q | q
  · exact am_ek_u am_k203_2 (by omega) (by omega)
  rcases Nat.lt_or_ge pc 185 with q | q
  · exact am_ek_u am_k203_3 (by omega) (by omega)
  refine am_ek_none ?_
  show (bif Nat.blt pc 185 then am_cr203 pc else none) = none
  exact am_blt_f q _ _
set_option maxRecDepth 100000 in
theorem am_k204_0 : ((List.range 48).map (fun i => am_ek 204 (i + 0))).all id = true := by decide +kernel
set_option maxRecDepth 100000 in
theorem am_k204_1 : ((List.range 23).map (fun i => am_ek 204 (i + 48))).all id = true := by decide +kernel
theorem am_ky204 (pc : Nat) : am_ek 204 pc = true := by
  rcases Nat.lt_or_ge pc 48 with q | q
  · exact am_ek_u am_k204_0 (by omega) (by omega)
  rcases Nat.lt_or_ge pc 71 with q | q
  · exact am_ek_u am_k204_1 (by omega) (by omega)
  refine am_ek_none ?_
  show (bif Nat.blt pc 71 then am_cr204 pc else none) = none
  exact am_blt_f q _ _
set_option maxRecDepth 100000 in
theorem am_k205_0 : ((List.range 48).map (fun i => am_ek 205 (i + 0))).all id = true := by decide +kernel
set_option maxRecDepth 100000 in
theorem am_k205_1 : ((List.range 48).map (fun i => am_ek 205 (i + 48))).all id = true := by decide +kernel
set_option maxRecDepth 100000 in
theorem am_k205_2 : ((List.range 31).map (fun i => am_ek 205 (i + 96))).all id = true := by decide +kernel
theorem am_ky205 (pc : Nat) : am_ek 205 pc = true := by
  rcases Nat.lt_or_ge pc 48 with q | q
  · exact am_ek_u am_k205_0 (by omega) (by omega)
  rcases Nat.lt_or_ge pc 96 with q | q
  · exact am_ek_u am_k205_1 (by omega) (by omega)
  rcases Nat.lt_or_ge pc 127 with q | q
  · exact am_ek_u am_k205_2 (by omega) (by omega)
  refine am_ek_none ?_
  show (bif Nat.blt pc 127 then am_cr205 pc else none) = none
  exact am_blt_f q _ _
set_option maxRecDepth 100000 in
theorem am_k206_0 : ((List.range 16).map (fun i => am_ek 206 (i + 0))).all id = true := by decide +kernel
theorem am_ky206 (pc : Nat) : am_ek 206 pc = true := by
  rcases Nat.lt_or_ge pc 16 with q | q
  · exact am_ek_u am_k206_0 (by omega) (by omega)
  refine am_ek_none ?_
  show (bif Nat.blt pc 16 then am_cr206 pc else none) = none
  exact am_blt_f q _ _
set_option maxRecDepth 100000 in
theorem am_k207_0 : ((List.range 48).map (fun i => am_ek 207 (i + 0))).all id = true := by decide +kernel
set_option maxRecDepth 100000 in
theorem am_k207_1 : ((List.range 7).map (fun i => am_ek 207 (i + 48))).all id = true := by decide +kernel
theorem am_ky207 (pc : Nat) : am_ek 207 pc = true := by
  rcases Nat.lt_or_ge pc 48 with q | q
  · exact am_ek_u am_k207_0 (by omega) (by omega)
  rcases Nat.lt_or_ge pc 55 with q | q
  · exact am_ek_u am_k207_1 (by omega) (by omega)
  refine am_ek_none ?_
  show (bif Nat.blt pc 55 then am_cr207 pc else none) = none
  exact am_blt_f q _ _
set_option maxRecDepth 100000 in
theorem am_k208_0 : ((List.range 48).map (fun i => am_ek 208 (i + 0))).all id = true := by decide +kernel
set_option maxRecDepth 100000 in
theorem am_k208_1 : ((List.range 13).map (fun i => am_ek 208 (i + 48))).all id = true := by decide +kernel
theorem am_ky208 (pc : Nat) : am_ek 208 pc = true := by
  rcases Nat.lt_or_ge pc 48 with q | q
  · exact am_ek_u am_k208_0 (by omega) (by omega)
  rcases Nat.lt_or_ge pc 61 with q | q
  · exact am_ek_u am_k208_1 (by omega) (by omega)
  refine am_ek_none ?_
  show (bif Nat.blt pc 61 then am_cr208 pc else none) = none
  exact am_blt_f q _ _
set_option maxRecDepth 100000 in
theorem am_k209_0 : ((List.range 48).map (fun i => am_ek 209 (i + 0))).all id = true := by decide +kernel
set_option maxRecDepth 100000 in
theorem am_k209_1 : ((List.range 48).map (fun i => am_ek 209 (i + 48))).all id = true := by decide +kernel
set_option maxRecDepth 100000 in
theorem am_k209_2 : ((List.range 9).map (fun i => am_ek 209 (i + 96))).all id = true := by decide +kernel
theorem am_ky209 (pc : Nat) : am_ek 209 pc = true := by
  rcases Nat.lt_or_ge pc 48 with q | q
  · exact am_ek_u am_k209_0 (by omega) (by omega)
  rcases Nat.lt_or_ge pc 96 with q | q
  · exact am_ek_u am_k209_1 (by omega) (by omega)
  rcases Nat.lt_or_ge pc 105 with q | q
  · exact am_ek_u am_k209_2 (by omega) (by omega)
  refine am_ek_none ?_
  show (bif Nat.blt pc 105 then am_cr209 pc else none) = none
  exact am_blt_f q _ _
set_option maxRecDepth 100000 in
theorem am_k210_0 : ((List.range 48).map (fun i => am_ek 210 (i + 0))).all id = true := by decide +kernel
set_option maxRecDepth 100000 in
theorem am_k210_1 : ((List.range 48).map (fun i => am_ek 210 (i + 48))).all id = true := by decide +kernel
set_option maxRecDepth 100000 in
theorem am_k210_2 : ((List.range 3).map (fun i => am_ek 210 (i + 96))).all id = true := by decide +kernel
theorem am_ky210 (pc : Nat) : am_ek 210 pc = true := by
  rcases Nat.lt_or_ge pc 48 with q | q
  · exact am_ek_u am_k210_0 (by omega) (by omega)
  rcases Nat.lt_or_ge pc 96 with q | q
  · exact am_ek_u am_k210_1 (by omega) (by omega)
  rcases Nat.lt_or_ge pc 99 with q | q
  · exact am_ek_u am_k210_2 (by omega) (by omega)
  refine am_ek_none ?_
  show (bif Nat.blt pc 99 then am_cr210 pc else none) = none
  exact am_blt_f q _ _
set_option maxRecDepth 100000 in
theorem am_k211_0 : ((List.range 34).map (fun i => am_ek 211 (i + 0))).all id = true := by decide +kernel
theorem am_ky211 (pc : Nat) : am_ek 211 pc = true := by
  rcases Nat.lt_or_ge pc 34 with q | q
  · exact am_ek_u am_k211_0 (by omega) (by omega)
  refine am_ek_none ?_
  show (bif Nat.blt pc 34 then am_cr211 pc else none) = none
  exact am_blt_f q _ _
set_option maxRecDepth 100000 in
theorem am_k212_0 : ((List.range 21).map (fun i => am_ek 212 (i + 0))).all id = true := by decide +kernel
theorem am_ky212 (pc : Nat) : am_ek 212 pc = true := by
  rcases Nat.lt_or_ge pc 21 with q | q
  · exact am_ek_u am_k212_0 (by omega) (by omega)
  refine am_ek_none ?_
  show (bif Nat.blt pc 21 then am_cr212 pc else none) = none
  exact am_blt_f q _ _
set_option maxRecDepth 100000 in
theorem am_k213_0 : ((List.range 48).map (fun i => am_ek 213 (i + 0))).all id = true := by decide +kernel
set_option maxRecDepth 100000 in
theorem am_k213_1 : ((List.range 4).map (fun i => am_ek 213 (i + 48))).all id = true := by decide +kernel
theorem am_ky213 (pc : Nat) : am_ek 213 pc = true := by
  rcases Nat.lt_or_ge pc 48 with q | q
  · exact am_ek_u am_k213_0 (by omega) (by omega)
  rcases Nat.lt_or_ge pc 52 with q | q
  · exact am_ek_u am_k213_1 (by omega) (by omega)
  refine am_ek_none ?_
  show (bif Nat.blt pc 52 then am_cr213 pc else none) = none
  exact am_blt_f q _ _
set_option maxRecDepth 100000 in
theorem am_k214_0 : ((List.range 48).map (fun i => am_ek 214 (i + 0))).all id = true := by decide +kernel
set_option maxRecDepth 100000 in
theorem am_k214_1 : ((List.range 48).map (fun i => am_ek 214 (i + 48))).all id = true := by decide +kernel
set_option maxRecDepth 100000 in
theorem am_k214_2 : ((List.range 10).map (fun i => am_ek 214 (i + 96))).all id = true := by decide +kernel
theorem am_ky214 (pc : Nat) : am_ek 214 pc = true := by
  rcases Nat.lt_or_ge pc 48 with q | q
  · exact am_ek_u am_k214_0 (by omega) (by omega)
  rcases Nat.lt_or_ge pc 96 with q | q
  · exact am_ek_u am_k214_1 (by omega) (by omega)
  rcases Nat.lt_or_ge pc 106 with q | q
  · exact am_ek_u am_k214_2 (by omega) (by omega)
  refine am_ek_none ?_
  show (bif Nat.blt pc 106 then am_cr214 pc else none) = none
  exact am_blt_f q _ _
set_option maxRecDepth 100000 in
theorem am_k215_0 : ((List.range 48).map (fun i => am_ek 215 (i + 0))).all id = true := by decide +kernel
set_option maxRecDepth 100000 in
theorem am_k215_1 : ((List.range 8).map (fun i => am_ek 215 (i + 48))).all id = true := by decide +kernel
theorem am_ky215 (pc : Nat) : am_ek 215 pc = true := by
  rcases Nat.lt_or_ge pc 48 with q | q
  · exact am_ek_u am_k215_0 (by omega) (by omega)
  rcases Nat.lt_or_ge pc 56 with q | q
  · exact am_ek_u am_k215_1 (by omega) (by omega)
  refine am_ek_none ?_
  show (bif Nat.blt pc 56 then am_cr215 pc else none) = none
  exact am_blt_f q _ _
set_option maxRecDepth 100000 in
theorem am_k216_0 : ((List.range 48).map (fun i => am_ek 216 (i + 0))).all id = true := by decide +kernel
set_option maxRecDepth 100000 in
theorem am_k216_1 : ((List.range 48).map (fun i => am_ek 216 (i + 48))).all id = true := by decide +kernel
set_option maxRecDepth 100000 in
theorem am_k216_2 : ((List.range 48).map (fun i => am_ek 216 (i + 96))).all id = true := by decide +kernel
set_option maxRecDepth 100000 in
theorem am_k216_3 : ((List.range 31).map (fun i => am_ek 216 (i + 144))).all id = true := by decide +kernel
theorem am_ky216 (pc : Nat) : am_ek 216 pc = true := by
  rcases Nat.lt_or_ge pc 48 with q | q
  · exact am_ek_u am_k216_0 (by omega) (by omega)
  rcases Nat.lt_or_ge pc 96 with q | q
  · exact am_ek_u am_k216_1 (by omega) (by omega)
  rcases Nat.lt_or_ge pc 144 with q | q
  · exact am_ek_u am_k216_2 (by omega) (by omega)
  rcases Nat.lt_or_ge pc 175 with q | q
  · exact am_ek_u am_k216_3 (by omega) (by omega)
  refine am_ek_none ?_
  show (bif Nat.blt pc 175 then am_cr216 pc else none) = none
  exact am_blt_f q _ _
set_option maxRecDepth 100000 in
theorem am_k217_0 : ((List.range 48).map (fun i => am_ek 217 (i + 0))).all id = true := by decide +kernel
set_option maxRecDepth 100000 in
theorem am_k217_1 : ((List.range 1).map (fun i => am_ek 217 (i + 48))).all id = true := by decide +kernel
theorem am_ky217 (pc : Nat) : am_ek 217 pc = true := by
  rcases Nat.lt_or_ge pc 48 with q | q
  · exact am_ek_u am_k217_0 (by omega) (by omega)
  rcases Nat.lt_or_ge pc 49 with q | q
  · exact am_ek_u am_k217_1 (by omega) (by omega)
  refine am_ek_none ?_
  show (bif Nat.blt pc 49 then am_cr217 pc else none) = none
  exact am_blt_f q _ _
set_option maxRecDepth 100000 in
theorem am_k218_0 : ((List.range 48).map (fun i => am_ek 218 (i + 0))).all id = true := by decide +kernel
set_option maxRecDepth 100000 in
theorem am_k218_1 : ((List.range 1).map (fun i => am_ek 218 (i + 48))).all id = true := by decide +kernel
theorem am_ky218 (pc : Nat) : am_ek 218 pc = true := by
  rcases Nat.lt_or_ge pc 48 with q | q
  · exact am_ek_u am_k218_0 (by omega) (by omega)
  rcases Nat.lt_or_ge pc 49 with q | q
  · exact am_ek_u am_k218_1 (by omega) (by omega)
  refine am_ek_none ?_
  show (bif Nat.blt pc 49 then am_cr218 pc else none) = none
  exact am_blt_f q _ _
set_option maxRecDepth 100000 in
theorem am_k219_0 : ((List.range 48).map (fun i => am_ek 219 (i + 0))).all id = true := by decide +kernel
set_option maxRecDepth 100000 in
theorem am_k219_1 : ((List.range 38).map (fun i => am_ek 219 (i + 48))).all id = true := by decide +kernel
theorem am_ky219 (pc : Nat) : am_ek 219 pc = true := by
  rcases Nat.lt_or_ge pc 48 with q | q
  · exact am_ek_u am_k219_0 (by omega) (by omega)
  rcases Nat.lt_or_ge pc 86 with q | q
  · exact am_ek_u am_k219_1 (by omega) (by omega)
  refine am_ek_none ?_
  show (bif Nat.blt pc 86 then am_cr219 pc else none) = none
  exact am_blt_f q _ _
set_option maxRecDepth 100000 in
theorem am_k220_0 : ((List.range 48).map (fun i => am_ek 220 (i + 0))).all id = true := by decide +kernel
set_option maxRecDepth 100000 in
theorem am_k220_1 : ((List.range 48).map (fun i => am_ek 220 (i + 48))).all id = true := by decide +kernel
set_option maxRecDepth 100000 in
theorem am_k220_2 : ((List.range 34).map (fun i => am_ek 220 (i + 96))).all id = true := by decide +kernel
theorem am_ky220 (pc : Nat) : am_ek 220 pc = true := by
  rcases Nat.lt_or_ge pc 48 with q | q
  · exact am_ek_u am_k220_0 (by omega) (by omega)
  rcases Nat.lt_or_ge pc 96 with q | q
  · exact am_ek_u am_k220_1 (by omega) (by omega)
  rcases Nat.lt_or_ge pc 130 with q | q
  · exact am_ek_u am_k220_2 (by omega) (by omega)
  refine am_ek_none ?_
  show (bif Nat.blt pc 130 then am_cr220 pc else none) = none
  exact am_blt_f q _ _
set_option maxRecDepth 100000 in
theorem am_k221_0 : ((List.range 48).map (fun i => am_ek 221 (i + 0))).all id = true := by decide +kernel
set_option maxRecDepth 100000 in
theorem am_k221_1 : ((List.range 48).map (fun i => am_ek 221 (i + 48))).all id = true := by decide +kernel
set_option maxRecDepth 100000 in
theorem am_k221_2 : ((List.range 11).map (fun i => am_ek 221 (i + 96))).all id = true := by decide +kernel
theorem am_ky221 (pc : Nat) : am_ek 221 pc = true := by
  rcases Nat.lt_or_ge pc 48 with q | q
  · exact am_ek_u am_k221_0 (by omega) (by omega)
  rcases Nat.lt_or_ge pc 96 with q | q
  · exact am_ek_u am_k221_1 (by omega) (by omega)
  rcases Nat.lt_or_ge pc 107 with q | q
  · exact am_ek_u am_k221_2 (by omega) (by omega)
  refine am_ek_none ?_
  show (bif Nat.blt pc 107 then am_cr221 pc else none) = none
  exact am_blt_f q _ _
set_option maxRecDepth 100000 in
theorem am_k222_0 : ((List.range 48).map (fun i => am_ek 222 (i + 0))).all id = true := by decide +kernel
set_option maxRecDepth 100000 in
theorem am_k222_1 : ((List.range 44).map (fun i => am_ek 222 (i + 48))).all id = true := by decide +kernel
theorem am_ky222 (pc : Nat) : am_ek 222 pc = true := by
  rcases Nat.lt_or_ge pc 48 with q | q
  · exact am_ek_u am_k222_0 (by omega) (by omega)
  rcases Nat.lt_or_ge pc 92 with q | q
  · exact am_ek_u am_k222_1 (by omega) (by omega)
  refine am_ek_none ?_
  show (bif Nat.blt pc 92 then am_cr222 pc else none) = none
  exact am_blt_f q _ _
set_option maxRecDepth 100000 in
theorem am_k223_0 : ((List.range 48).map (fun i => am_ek 223 (i + 0))).all id = true := by decide +kernel
set_option maxRecDepth 100000 in
theorem am_k223_1 : ((List.range 48).map (fun i => am_ek 223 (i + 48))).all id = true := by decide +kernel
set_option maxRecDepth 100000 in
theorem am_k223_2 : ((List.range 48).map (fun i => am_ek 223 (i + 96))).all id = true := by decide +kernel
set_option maxRecDepth 100000 in
theorem am_k223_3 : ((List.range 6).map (fun i => am_ek 223 (i + 144))).all id = true := by decide +kernel
theorem am_ky223 (pc : Nat) : am_ek 223 pc = true := by
  rcases Nat.lt_or_ge pc 48 with q | q
  · exact am_ek_u am_k223_0 (by omega) (by omega)
  rcases Nat.lt_or_ge pc 96 with q | q
  · exact am_ek_u am_k223_1 (by omega) (by omega)
  rcases Nat.lt_or_ge pc 144 with q | q
  · exact am_ek_u am_k223_2 (by omega) (by omega)
  rcases Nat.lt_or_ge pc 150 with q | q
  · exact am_ek_u am_k223_3 (by omega) (by omega)
  refine am_ek_none ?_
  show (bif Nat.blt pc 150 then am_cr223 pc else none) = none
  exact am_blt_f q _ _
set_option maxRecDepth 100000 in
theorem am_k224_0 : ((List.range 48).map (fun i => am_ek 224 (i + 0))).all id = true := by decide +kernel
set_option maxRecDepth 100000 in
theorem am_k224_1 : ((List.range 48).map (fun i => am_ek 224 (i + 48))).all id = true := by decide +kernel
set_option maxRecDepth 100000 in
theorem am_k224_2 : ((List.range 40).map (fun i => am_ek 224 (i + 96))).all id = true := by decide +kernel
theorem am_ky224 (pc : Nat) : am_ek 224 pc = true := by
  rcases Nat.lt_or_ge pc 48 with q | q
  · exact am_ek_u am_k224_0 (by omega) (by omega)
  rcases Nat.lt_or_ge pc 96 with q | q
  · exact am_ek_u am_k224_1 (by omega) (by omega)
  rcases Nat.lt_or_ge pc 136 with q | q
  · exact am_ek_u am_k224_2 (by omega) (by omega)
  refine am_ek_none ?_
  show (bif Nat.blt pc 136 then am_cr224 pc else none) = none
  exact am_blt_f q _ _
set_option maxRecDepth 100000 in
theorem am_k225_0 : ((List.range 48).map (fun i => am_ek 225 (i + 0))).all id = true := by decide +kernel
set_option maxRecDepth 100000 in
theorem am_k225_1 : ((List.range 3).map (fun i => am_ek 225 (i + 48))).all id = true := by decide +kernel
theorem am_ky225 (pc : Nat) : am_ek 225 pc = true := by
  rcases Nat.lt_or_ge pc 48 with q | q
  · exact am_ek_u am_k225_0 (by omega) (by omega)
  rcases Nat.lt_or_ge pc 51 with q | q
  · exact am_ek_u am_k225_1 (by omega) (by omega)
  refine am_ek_none ?_
  show (bif Nat.blt pc 51 then am_cr225 pc else none) = none
  exact am_blt_f q _ _
set_option maxRecDepth 100000 in
theorem am_k226_0 : ((List.range 24).map (fun i => am_ek 226 (i + 0))).all id = true := by decide +kernel
theorem am_ky226 (pc : Nat) : am_ek 226 pc = true := by
  rcases Nat.lt_or_ge pc 24 with q | q
  · exact am_ek_u am_k226_0 (by omega) (by omega)
  refine am_ek_none ?_
  show (bif Nat.blt pc 24 then am_cr226 pc else none) = none
  exact am_blt_f q _ _
set_option maxRecDepth 100000 in
theorem am_k227_0 : ((List.range 48).map (fun i => am_ek 227 (i + 0))).all id = true := by decide +kernel
set_option maxRecDepth 100000 in
theorem am_k227_1 : ((List.range 9).map (fun i => am_ek 227 (i + 48))).all id = true := by decide +kernel
theorem am_ky227 (pc : Nat) : am_ek 227 pc = true := by
  rcases Nat.lt_or_ge pc 48 with q | q
  · exact am_ek_u am_k227_0 (by omega) (by omega)
  rcases Nat.lt_or_ge pc 57 with q | q
  · exact am_ek_u am_k227_1 (by omega) (by omega)
  refine am_ek_none ?_
  show (bif Nat.blt pc 57 then am_cr227 pc else none) = none
  exact am_blt_f q _ _
set_option maxRecDepth 100000 in
theorem am_k228_0 : ((List.range 37).map (fun i => am_ek 228 (i + 0))).all id = true := by decide +kernel
theorem am_ky228 (pc : Nat) : am_ek 228 pc = true := by
  rcases Nat.lt_or_ge pc 37 with q | q
  · exact am_ek_u am_k228_0 (by omega) (by omega)
  refine am_ek_none ?_
  show (bif Nat.blt pc 37 then am_cr228 pc else none) = none
  exact am_blt_f q _ _
set_option maxRecDepth 100000 in
theorem am_k229_0 : ((List.range 48).map (fun i => am_ek 229 (i + 0))).all id = true := by decide +kernel
set_option maxRecDepth 100000 in
theorem am_k229_1 : ((List.range 48).map (fun i => am_ek 229 (i + 48))).all id = true := by decide +kernel
set_option maxRecDepth 100000 in
theorem am_k229_2 : ((List.range 13).map (fun i => am_ek 229 (i + 96))).all id = true := by decide +kernel
theorem am_ky229 (pc : Nat) : am_ek 229 pc = true := by
  rcases Nat.lt_or_ge pc 48 with q | q
  · exact am_ek_u am_k229_0 (by omega) (by omega)
  rcases Nat.lt_or_ge pc 96 with q | q
  · exact am_ek_u am_k229_1 (by omega) (by omega)
  rcases Nat.lt_or_ge pc 109 with q | q
  · exact am_ek_u am_k229_2 (by omega) (by omega)
  refine am_ek_none ?_
  show (bif Nat.blt pc 109 then am_cr229 pc else none) = none
  exact am_blt_f q _ _
set_option maxRecDepth 100000 in
theorem am_k230_0 : ((List.range 12).map (fun i => am_ek 230 (i + 0))).all id = true := by decide +kernel
theorem am_ky230 (pc : Nat) : am_ek 230 pc = true := by
  rcases Nat.lt_or_ge pc 12 with q | q
  · exact am_ek_u am_k230_0 (by omega) (by omega)
  refine am_ek_none ?_
  show (bif Nat.blt pc 12 then am_cr230 pc else none) = none
  exact am_blt_f q _ _
set_option maxRecDepth 100000 in
theorem am_k231_0 : ((List.range 48).map (fun i => am_ek 231 (i + 0))).all id = true := by decide +kernel
set_option maxRecDepth 100000 in
theorem am_k231_1 : ((List.range 32).map (fun i => am_ek 231 (i + 48))).all id = true := by decide +kernel
theorem am_ky231 (pc : Nat) : am_ek 231 pc = true := by
  rcases Nat.lt_or_ge pc 48 with q | q
  · exact am_ek_u am_k231_0 (by omega) (by omega)
  rcases Nat.lt_or_ge pc 80 with q | q
  · exact am_ek_u am_k231_1 (by omega) (by omega)
  refine am_ek_none ?_
  show (bif Nat.blt pc 80 then am_cr231 pc else none) = none
  exact am_blt_f q _ _
set_option maxRecDepth 100000 in
theorem am_k232_0 : ((List.range 48).map (fun i => am_ek 232 (i + 0))).all id = true := by decide +kernel
set_option maxRecDepth 100000 in
theorem am_k232_1 : ((List.range 48).map (fun i => am_ek 232 (i + 48))).all id = true := by decide +kernel
set_option maxRecDepth 100000 in
theorem am_k232_2 : ((List.range 48).map (fun i => am_ek 232 (i + 96))).all id = true := by decide +kernel
set_option maxRecDepth 100000 in
theorem am_k232_3 : ((List.range 24).map (fun i => am_ek 232 (i + 144))).all id = true := by decide +kernel
theorem am_ky232 (pc : Nat) : am_ek 232 pc = true := by
  rcases Nat.lt_or_ge pc 48 with q | q
  · exact am_ek_u am_k232_0 (by omega) (by omega)
  rcases Nat.lt_or_ge pc 96 with q | q
  · exact am_ek_u am_k232_1 (by omega) (by omega)
  rcases Nat.lt_or_ge pc 144 with q | q
  · exact am_ek_u am_k232_2 (by omega) (by omega)
  rcases Nat.lt_or_ge pc 168 with q | q
  · exact am_ek_u am_k232_3 (by omega) (by omega)
  refine am_ek_none ?_
  show (bif Nat.blt pc 168 then am_cr232 pc else none) = none
  exact am_blt_f q _ _
set_option maxRecDepth 100000 in
theorem am_k233_0 : ((List.range 48).map (fun i => am_ek 233 (i + 0))).all id = true := by decide +kernel
set_option maxRecDepth 100000 in
theorem am_k233_1 : ((List.range 48).map (fun i => am_ek 233 (i + 48))).all id = true := by decide +kernel
set_option maxRecDepth 100000 in
theorem am_k233_2 : ((List.range 27).map (fun i => am_ek 233 (i + 96))).all id = true := by decide +kernel
theorem am_ky233 (pc : Nat) : am_ek 233 pc = true := by
  rcases Nat.lt_or_ge pc 48 with q | q
  · exact am_ek_u am_k233_0 (by omega) (by omega)
  rcases Nat.lt_or_ge pc 96 with q | q
  · exact am_ek_u am_k233_1 (by omega) (by omega)
  rcases Nat.lt_or_ge pc 123 with q | q
  · exact am_ek_u am_k233_2 (by omega) (by omega)
  refine am_ek_none ?_
  show (bif Nat.blt pc 123 then am_cr233 pc else none) = none
  exact am_blt_f q _ _
set_option maxRecDepth 100000 in
theorem am_k234_0 : ((List.range 48).map (fun i => am_ek 234 (i + 0))).all id = true := by decide +kernel
set_option maxRecDepth 100000 in
theorem am_k234_1 : ((List.range 48).map (fun i => am_ek 234 (i + 48))).all id = true := by decide +kernel
set_option maxRecDepth 100000 in
theorem am_k234_2 : ((List.range 48).map (fun i => am_ek 234 (i + 96))).all id = true := by decide +kernel
set_option maxRecDepth 100000 in
theorem am_k234_3 : ((List.range 48).map (fun i => am_ek 234 (i + 144))).all id = true := by decide +kernel
set_option maxRecDepth 100000 in
theorem am_k234_4 : ((List.range 48).map (fun i => am_ek 234 (i + 192))).all id = true := by decide +kernel
set_option maxRecDepth 100000 in
theorem am_k234_5 : ((List.range 35).map (fun i => am_ek 234 (i + 240))).all id = true := by decide +kernel
theorem am_ky234 (pc : Nat) : am_ek 234 pc = true := by
  rcases Nat.lt_or_ge pc 48 with q | q
  · exact am_ek_u am_k234_0 (by omega) (by omega)
  rcases Nat.lt_or_ge pc 96 with q | q
  · exact am_ek_u am_k234_1 (by omega) (by omega)
  rcases Nat.lt_or_ge pc 144 with q | q
  · exact am_ek_u am_k234_2 (by omega) (by omega)
  rcases Nat.lt_or_ge pc 192 with q | q
  · exact am_ek_u am_k234_3 (by omega) (by omega)
  rcases Nat.lt_or_ge pc 240 with q | q
  · exact am_ek_u am_k234_4 (by omega) (by omega)
  rcases Nat.lt_or_ge pc 275 with q | q
  · exact am_ek_u am_k234_5 (by omega) (by omega)
  refine am_ek_none ?_
  show (bif Nat.blt pc 275 then am_cr234 pc else none) = none
  exact am_blt_f q _ _
set_option maxRecDepth 100000 in
theorem am_k235_0 : ((List.range 48).map (fun i => am_ek 235 (i + 0))).all id = true := by decide +kernel
set_option maxRecDepth 100000 in
theorem am_k235_1 : ((List.range 48).map (fun i => am_ek 235 (i + 48))).all id = true := by decide +kernel
set_option maxRecDepth 100000 in
theorem am_k235_2 : ((List.range 48).map (fun i => am_ek 235 (i + 96))).all id = true := by decide +kernel
set_option maxRecDepth 100000 in
theorem am_k235_3 : ((List.range 48).map (fun i => am_ek 235 (i + 144))).all id = true := by decide +kernel
set_option maxRecDepth 100000 in
theorem am_k235_4 : ((List.range 48).map (fun i => am_ek 235 (i + 192))).all id = true := by decide +kernel
set_option maxRecDepth 100000 in
theorem am_k235_5 : ((List.range 5).map (fun i => am_ek 235 (i + 240))).all id = true := by decide +kernel
theorem am_ky235 (pc : Nat) : am_ek 235 pc = true := by
  rcases Nat.lt_or_ge pc 48 with q | q
  · exact am_ek_u am_k235_0 (by omega) (by omega)
  rcases Nat.lt_or_ge pc 96 with q | q
  · exact am_ek_u am_k235_1 (by omega) (by omega)
  rcases Nat.lt_or_ge pc 144 with q | q
  · exact am_ek_u am_k235_2 (by omega) (by omega)
  rcases Nat.lt_or_ge pc 192 with q | q
  · exact am_ek_u am_k235_3 (by omega) (by omega)
  rcases Nat.lt_or_ge pc 240 with q | q
  · exact am_ek_u am_k235_4 (by omega) (by omega)
  rcases Nat.lt_or_ge pc 245 with q | q
  · exact am_ek_u am_k235_5 (by omega) (by omega)
  refine am_ek_none ?_
  show (bif Nat.blt pc 245 then am_cr235 pc else none) = none
  exact am_blt_f q _ _
set_option maxRecDepth 100000 in
theorem am_k236_0 : ((List.range 18).map (fun i => am_ek 236 (i + 0))).all id = true := by decide +kernel
theorem am_ky236 (pc : Nat) : am_ek 236 pc = true := by
  rcases Nat.lt_or_ge pc 18 with q | q
  · exact am_ek_u am_k236_0 (by omega) (by omega)
  refine am_ek_none ?_
  show (bif Nat.blt pc 18 then am_cr236 pc else none) = none
  exact am_blt_f q _ _
set_option maxRecDepth 100000 in
theorem am_k237_0 : ((List.range 37).map (fun i => am_ek 237 (i + 0))).all id = true := by decide +kernel
theorem am_ky237 (pc : Nat) : am_ek 237 pc = true := by
  rcases Nat.lt_or_ge pc 37 with q | q
  · exact am_ek_u am_k237_0 (by omega) (by omega)
  refine am_ek_none ?_
  show (bif Nat.blt pc 37 then am_cr237 pc else none) = none
  exact am_blt_f q _ _
set_option maxRecDepth 100000 in
theorem am_k238_0 : ((List.range 48).map (fun i => am_ek 238 (i + 0))).all id = true := by decide +kernel
set_option maxRecDepth 100000 in
theorem am_k238_1 : ((List.range 48).map (fun i => am_ek 238 (i + 48))).all id = true := by decide +kernel
set_option maxRecDepth 100000 in
theorem am_k238_2 : ((List.range 39).map (fun i => am_ek 238 (i + 96))).all id = true := by decide +kernel
theorem am_ky238 (pc : Nat) : am_ek 238 pc = true := by
  rcases Nat.lt_or_ge pc 48 with q | q
  · exact am_ek_u am_k238_0 (by omega) (by omega)
  rcases Nat.lt_or_ge pc 96 with q | q
  · exact am_ek_u am_k238_1 (by omega) (by omega)
  rcases Nat.lt_or_ge pc 135 with q | q
  · exact am_ek_u am_k238_2 (by omega) (by omega)
  refine am_ek_none ?_
  show (bif Nat.blt pc 135 then am_cr238 pc else none) = none
  exact am_blt_f q _ _
set_option maxRecDepth 100000 in
theorem am_k239_0 : ((List.range 30).map (fun i => am_ek 239 (i + 0))).all id = true := by decide +kernel
theorem am_ky239 (pc : Nat) : am_ek 239 pc = true := by
  rcases Nat.lt_or_ge pc 30 with q | q
  · exact am_ek_u am_k239_0 (by omega) (by omega)
  refine am_ek_none ?_
  show (bif Nat.blt pc 30 then am_cr239 pc else none) = none
  exact am_blt_f q _ _
set_option maxRecDepth 100000 in
theorem am_k240_0 : ((List.range 29).map (fun i => am_ek 240 (i + 0))).all id = true := by decide +kernel
theorem am_ky240 (pc : Nat) : am_ek 240 pc = true := by
  rcases Nat.lt_or_ge pc 29 with q | q
  · exact am_ek_u am_k240_0 (by omega) (by omega)
  refine am_ek_none ?_
  show (bif Nat.blt pc 29 then am_cr240 pc else none) = none
  exact am_blt_f q _ _
set_option maxRecDepth 100000 in
theorem am_k241_0 : ((List.range 28).map (fun i => am_ek 241 (i + 0))).all id = true := by decide +kernel
theorem am_ky241 (pc : Nat) : am_ek 241 pc = true := by
  rcases Nat.lt_or_ge pc 28 with q | q
  · exact am_ek_u am_k241_0 (by omega) (by omega)
  refine am_ek_none ?_
  show (bif Nat.blt pc 28 then am_cr241 pc else none) = none
  exact am_blt_f q _ _
set_option maxRecDepth 100000 in
theorem am_k242_0 : ((List.range 48).map (fun i => am_ek 242 (i + 0))).all id = true := by decide +kernel
set_option maxRecDepth 100000 in
theorem am_k242_1 : ((List.range 1).map (fun i => am_ek 242 (i + 48))).all id = true := by decide +kernel
theorem am_ky242 (pc : Nat) : am_ek 242 pc = true := by
  rcases Nat.lt_or_ge pc 48 with q | q
  · exact am_ek_u am_k242_0 (by omega) (by omega)
  rcases Nat.lt_or_ge pc 49 with q | q
  · exact am_ek_u am_k242_1 (by omega) (by omega)
  refine am_ek_none ?_
  show (bif Nat.blt pc 49 then am_cr242 pc else none) = none
  exact am_blt_f q _ _
set_option maxRecDepth 100000 in
theorem am_k243_0 : ((List.range 48).map (fun i => am_ek 243 (i + 0))).all id = true := by decide +kernel
set_option maxRecDepth 100000 in
theorem am_k243_1 : ((List.range 18).map (fun i => am_ek 243 (i + 48))).all id = true := by decide +kernel
theorem am_ky243 (pc : Nat) : am_ek 243 pc = true := by
  rcases Nat.lt_or_ge pc 48 with q | q
  · exact am_ek_u am_k243_0 (by omega) (by omega)
  rcases Nat.lt_or_ge pc 66 with q | q
  · exact am_ek_u am_k243_1 (by omega) (by omega)
  refine am_ek_none ?_
  show (bif Nat.blt pc 66 then am_cr243 pc else none) = none
  exact am_blt_f q _ _
set_option maxRecDepth 100000 in
theorem am_k244_0 : ((List.range 48).map (fun i => am_ek 244 (i + 0))).all id = true := by decide +kernel
set_option maxRecDepth 100000 in
theorem am_k244_1 : ((List.range 48).map (fun i => am_ek 244 (i + 48))).all id = true := by decide +kernel
set_option maxRecDepth 100000 in
theorem am_k244_2 : ((List.range 48).map (fun i => am_ek 244 (i + 96))).all id = true := by decide +kernel
set_option maxRecDepth 100000 in
theorem am_k244_3 : ((List.range 48).map (fun i => am_ek 244 (i + 144))).all id = true := by decide +kernel
set_option maxRecDepth 100000 in
theorem am_k244_4 : ((List.range 44).map (fun i => am_ek 244 (i + 192))).all id = true := by decide +kernel
theorem am_ky244 (pc : Nat) : am_ek 244 pc = true := by
  rcases Nat.lt_or_ge pc 48 with q | q
  · exact am_ek_u am_k244_0 (by omega) (by omega)
  rcases Nat.lt_or_ge pc 96 with q | q
  · exact am_ek_u am_k244_1 (by omega) (by omega)
  rcases Nat.lt_or_ge pc 144 with q | q
  · exact am_ek_u am_k244_2 (by omega) (by omega)
  rcases Nat.lt_or_ge pc 192 with q | q
  · exact am_ek_u am_k244_3 (by omega) (by omega)
  rcases Nat.lt_or_ge pc 236 with q | q
  · exact am_ek_u am_k244_4 (by omega) (by omega)
  refine am_ek_none ?_
  show (bif Nat.blt pc 236 then am_cr244 pc else none) = none
  exact am_blt_f q _ _
set_option maxRecDepth 100000 in
theorem am_k245_0 : ((List.range 48).map (fun i => am_ek 245 (i + 0))).all id = true := by decide +kernel
set_option maxRecDepth 100000 in
theorem am_k245_1 : ((List.range 27).map (fun i => am_ek 245 (i + 48))).all id = true := by decide +kernel
theorem am_ky245 (pc : Nat) : am_ek 245 pc = true := by
  rcases Nat.lt_or_ge pc 48 with q | q
  · exact am_ek_u am_k245_0 (by omega) (by omega)
  rcases Nat.lt_or_ge pc 75 with q | q
  · exact am_ek_u am_k245_1 (by omega) (by omega)
  refine am_ek_none ?_
  show (bif Nat.blt pc 75 then am_cr245 pc else none) = none
  exact am_blt_f q _ _
set_option maxRecDepth 100000 in
theorem am_k246_0 : ((List.range 41).map (fun i => am_ek 246 (i + 0))).all id = true := by decide +kernel
theorem am_ky246 (pc : Nat) : am_ek 246 pc = true := by
  rcases Nat.lt_or_ge pc 41 with q | q
  · exact am_ek_u am_k246_0 (by omega) (by omega)
  refine am_ek_none ?_
  show (bif Nat.blt pc 41 then am_cr246 pc else none) = none
  exact am_blt_f q _ _
set_option maxRecDepth 100000 in
theorem am_k247_0 : ((List.range 48).map (fun i => am_ek 247 (i + 0))).all id = true := by decide +kernel
set_option maxRecDepth 100000 in
theorem am_k247_1 : ((List.range 48).map (fun i => am_ek 247 (i + 48))).all id = true := by decide +kernel
set_option maxRecDepth 100000 in
theorem am_k247_2 : ((List.range 48).map (fun i => am_ek 247 (i + 96))).all id = true := by decide +kernel
set_option maxRecDepth 100000 in
theorem am_k247_3 : ((List.range 43).map (fun i => am_ek 247 (i + 144))).all id = true := by decide +kernel
theorem am_ky247 (pc : Nat) : am_ek 247 pc = true := by
  rcases Nat.lt_or_ge pc 48 with q | q
  · exact am_ek_u am_k247_0 (by omega) (by omega)
  rcases Nat.lt_or_ge pc 96 with q | q
  · exact am_ek_u am_k247_1 (by omega) (by omega)
  rcases Nat.lt_or_ge pc 144 with q | q
  · exact am_ek_u am_k247_2 (by omega) (by omega)
  rcases Nat.lt_or_ge pc 187 with q | q
  · exact am_ek_u am_k247_3 (by omega) (by omega)
  refine am_ek_none ?_
  show (bif Nat.blt pc 187 then am_cr247 pc else none) = none
  exact am_blt_f q _ _
set_option maxRecDepth 100000 in
theorem am_k248_0 : ((List.range 48).map (fun i => am_ek 248 (i + 0))).all id = true := by decide +kernel
set_option maxRecDepth 100000 in
theorem am_k248_1 : ((List.range 48).map (fun i => am_ek 248 (i + 48))).all id = true := by decide +kernel
set_option maxRecDepth 100000 in
theorem am_k248_2 : ((List.range 30).map (fun i => am_ek 248 (i + 96))).all id = true := by decide +kernel
theorem am_ky248 (pc : Nat) : am_ek 248 pc = true := by
  rcases Nat.lt_or_ge pc 48 with q | q
  · exact am_ek_u am_k248_0 (by omega) (by omega)
  rcases Nat.lt_or_ge pc 96 with q | q
  · exact am_ek_u am_k248_1 (by omega) (by omega)
  rcases Nat.lt_or_ge pc 126 with q | q
  · exact am_ek_u am_k248_2 (by omega) (by omega)
  refine am_ek_none ?_
  show (bif Nat.blt pc 126 then am_cr248 pc else none) = none
  exact am_blt_f q _ _
set_option maxRecDepth 100000 in
theorem am_k249_0 : ((List.range 48).map (fun i => am_ek 249 (i + 0))).all id = true := by decide +kernel
set_option maxRecDepth 100000 in
theorem am_k249_1 : ((List.range 28).map (fun i => am_ek 249 (i + 48))).all id = true := by decide +kernel
theorem am_ky249 (pc : Nat) : am_ek 249 pc = true := by
  rcases Nat.lt_or_ge pc 48 with q | q
  · exact am_ek_u am_k249_0 (by omega) (by omega)
  rcases Nat.lt_or_ge pc 76 with q | q
  · exact am_ek_u am_k249_1 (by omega) (by omega)
  refine am_ek_none ?_
  show (bif Nat.blt pc 76 then am_cr249 pc else none) = none
  exact am_blt_f q _ _
set_option maxRecDepth 100000 in
theorem am_k250_0 : ((List.range 48).map (fun i => am_ek 250 (i + 0))).all id = true := by decide +kernel
set_option maxRecDepth 100000 in
theorem am_k250_1 : ((List.range 48).map (fun i => am_ek 250 (i + 48))).all id = true := by decide +kernel
set_option maxRecDepth 100000 in
theorem am_k250_2 : ((List.range 27).map (fun i => am_ek 250 (i + 96))).all id = true := by decide +kernel
theorem am_ky250 (pc : Nat) : am_ek 250 pc = true := by
  rcases Nat.lt_or_ge pc 48 with q | q
  · exact am_ek_u am_k250_0 (by omega) (by omega)
  rcases Nat.lt_or_ge pc 96 with q | q
  · exact am_ek_u am_k250_1 (by omega) (by omega)
  rcases Nat.lt_or_ge pc 123 with q | q
  · exact am_ek_u am_k250_2 (by omega) (by omega)
  refine am_ek_none ?_
  show (bif Nat.blt pc 123 then am_cr250 pc else none) = none
  exact am_blt_f q _ _
set_option maxRecDepth 100000 in
theorem am_k251_0 : ((List.range 48).map (fun i => am_ek 251 (i + 0))).all id = true := by decide +kernel
set_option maxRecDepth 100000 in
theorem am_k251_1 : ((List.range 3).map (fun i => am_ek 251 (i + 48))).all id = true := by decide +kernel
theorem am_ky251 (pc : Nat) : am_ek 251 pc = true := by
  rcases Nat.lt_or_ge pc 48 with q | q
  · exact am_ek_u am_k251_0 (by omega) (by omega)
  rcases Nat.lt_or_ge pc 51 with q | q
  · exact am_ek_u am_k251_1 (by omega) (by omega)
  refine am_ek_none ?_
  show (bif Nat.blt pc 51 then am_cr251 pc else none) = none
  exact am_blt_f q _ _
set_option maxRecDepth 100000 in
theorem am_k252_0 : ((List.range 48).map (fun i => am_ek 252 (i + 0))).all id = true := by decide +kernel
set_option maxRecDepth 100000 in
theorem am_k252_1 : ((List.range 48).map (fun i => am_ek 252 (i + 48))).all id = true := by decide +kernel
set_option maxRecDepth 100000 in
theorem am_k252_2 : ((List.range 48).map (fun i => am_ek 252 (i + 96))).all id = true := by decide +kernel
set_option maxRecDepth 100000 in
theorem am_k252_3 : ((List.range 48).map (fun i => am_ek 252 (i + 144))).all id = true := by decide +kernel
set_option maxRecDepth 100000 in
theorem am_k252_4 : ((List.range 48).map (fun i => am_ek 252 (i + 192))).all id = true := by decide +kernel
set_option maxRecDepth 100000 in
theorem am_k252_5 : ((List.range 48).map (fun i => am_ek 252 (i + 240))).all id = true := by decide +kernel
set_option maxRecDepth 100000 in
theorem am_k252_6 : ((List.range 8).map (fun i => am_ek 252 (i + 288))).all id = true := by decide +kernel
theorem am_ky252 (pc : Nat) : am_ek 252 pc = true := by
  rcases Nat.lt_or_ge pc 48 with q | q
  · exact am_ek_u am_k252_0 (by omega) (by omega)
  rcases Nat.lt_or_ge pc 96 with q | q
  · exact am_ek_u am_k252_1 (by omega) (by omega)
  rcases Nat.lt_or_ge pc 144 with q | q
  · exact am_ek_u am_k252_2 (by omega) (by omega)
  rcases Nat.lt_or_ge pc 192 with q | q
  · exact am_ek_u am_k252_3 (by omega) (by omega)
  rcases Nat.lt_or_ge pc 240 with q | q
  · exact am_ek_u am_k252_4 (by omega) (by omega)
  rcases Nat.lt_or_ge pc 288 with q | q
  · exact am_ek_u am_k252_5 (by omega) (by omega)
  rcases Nat.lt_or_ge pc 296 with q | q
  · exact am_ek_u am_k252_6 (by omega) (by omega)
  refine am_ek_none ?_
  show (bif Nat.blt pc 296 then am_cr252 pc else none) = none
  exact am_blt_f q _ _
set_option maxRecDepth 100000 in
theorem am_k253_0 : ((List.range 16).map (fun i => am_ek 253 (i + 0))).all id = true := by decide +kernel
theorem am_ky253 (pc : Nat) : am_ek 253 pc = true := by
  rcases Nat.lt_or_ge pc 16 with q | q
  · exact am_ek_u am_k253_0 (by omega) (by omega)
  refine am_ek_none ?_
  show (bif Nat.blt pc 16 then am_cr253 pc else none) = none
  exact am_blt_f q _ _
set_option maxRecDepth 100000 in
theorem am_k254_0 : ((List.range 48).map (fun i => am_ek 254 (i + 0))).all id = true := by decide +kernel
set_option maxRecDepth 100000 in
theorem am_k254_1 : ((List.range 12).map (fun i => am_ek 254 (i + 48))).all id = true := by decide +kernel
theorem am_ky254 (pc : Nat) : am_ek 254 pc = true := by
  rcases Nat.lt_or_ge pc 48 with q | q
  · exact am_ek_u am_k254_0 (by omega) (by omega)
  rcases Nat.lt_or_ge pc 60 with q | q
  · exact am_ek_u am_k254_1 (by omega) (by omega)
  refine am_ek_none ?_
  show (bif Nat.blt pc 60 then am_cr254 pc else none) = none
  exact am_blt_f q _ _
set_option maxRecDepth 100000 in
theorem am_k255_0 : ((List.range 48).map (fun i => am_ek 255 (i + 0))).all id = true := by decide +kernel
set_option maxRecDepth 100000 in
theorem am_k255_1 : ((List.range 30).map (fun i => am_ek 255 (i + 48))).all id = true := by decide +kernel
theorem am_ky255 (pc : Nat) : am_ek 255 pc = true := by
  rcases Nat.lt_or_ge pc 48 with q | q
  · exact am_ek_u am_k255_0 (by omega) (by omega)
  rcases Nat.lt_or_ge pc 78 with q | q
  · exact am_ek_u am_k255_1 (by omega) (by omega)
  refine am_ek_none ?_
  show (bif Nat.blt pc 78 then am_cr255 pc else none) = none
  exact am_blt_f q _ _
set_option maxRecDepth 100000 in
theorem am_k256_0 : ((List.range 29).map (fun i => am_ek 256 (i + 0))).all id = true := by decide +kernel
theorem am_ky256 (pc : Nat) : am_ek 256 pc = true := by
  rcases Nat.lt_or_ge pc 29 with q | q
  · exact am_ek_u am_k256_0 (by omega) (by omega)
  refine am_ek_none ?_
  show (bif Nat.blt pc 29 then am_cr256 pc else none) = none
  exact am_blt_f q _ _
set_option maxRecDepth 100000 in
theorem am_k257_0 : ((List.range 9).map (fun i => am_ek 257 (i + 0))).all id = true := by decide +kernel
theorem am_ky257 (pc : Nat) : am_ek 257 pc = true := by
  rcases Nat.lt_or_ge pc 9 with q | q
  · exact am_ek_u am_k257_0 (by omega) (by omega)
  refine am_ek_none ?_
  show (bif Nat.blt pc 9 then am_cr257 pc else none) = none
  exact am_blt_f q _ _
set_option maxRecDepth 100000 in
theorem am_k258_0 : ((List.range 28).map (fun i => am_ek 258 (i + 0))).all id = true := by decide +kernel
theorem am_ky258 (pc : Nat) : am_ek 258 pc = true := by
  rcases Nat.lt_or_ge pc 28 with q | q
  · exact am_ek_u am_k258_0 (by omega) (by omega)
  refine am_ek_none ?_
  show (bif Nat.blt pc 28 then am_cr258 pc else none) = none
  exact am_blt_f q _ _
set_option maxRecDepth 100000 in
theorem am_k259_0 : ((List.range 33).map (fun i => am_ek 259 (i + 0))).all id = true := by decide +kernel
theorem am_ky259 (pc : Nat) : am_ek 259 pc = true := by
  rcases Nat.lt_or_ge pc 33 with q | q
  · exact am_ek_u am_k259_0 (by omega) (by omega)
  refine am_ek_none ?_
  show (bif Nat.blt pc 33 then am_cr259 pc else none) = none
  exact am_blt_f q _ _
set_option maxRecDepth 100000 in
theorem am_k260_0 : ((List.range 48).map (fun i => am_ek 260 (i + 0))).all id = true := by decide +kernel
set_option maxRecDepth 100000 in
theorem am_k260_1 : ((List.range 5).map (fun i => am_ek 260 (i + 48))).all id = true := by decide +kernel
theorem am_ky260 (pc : Nat) : am_ek 260 pc = true := by
  rcases Nat.lt_or_ge pc 48 with q | q
  · exact am_ek_u am_k260_0 (by omega) (by omega)
  rcases Nat.lt_or_ge pc 53 with q | q
  · exact am_ek_u am_k260_1 (by omega) (by omega)
  refine am_ek_none ?_
  show (bif Nat.blt pc 53 then am_cr260 pc else none) = none
  exact am_blt_f q _ _
set_option maxRecDepth 100000 in
theorem am_k261_0 : ((List.range 48).map (fun i => am_ek 261 (i + 0))).all id = true := by decide +kernel
set_option maxRecDepth 100000 in
theorem am_k261_1 : ((List.range 24).map (fun i => am_ek 261 (i + 48))).all id = true := by decide +kernel
theorem am_ky261 (pc : Nat) : am_ek 261 pc = true := by
  rcases Nat.lt_or_ge pc 48 with q | q
  · exact am_ek_u am_k261_0 (by omega) (by omega)
  rcases Nat.lt_or_ge pc 72 with q | q
  · exact am_ek_u am_k261_1 (by omega) (by omega)
  refine am_ek_none ?_
  show (bif Nat.blt pc 72 then am_cr261 pc else none) = none
  exact am_blt_f q _ _
set_option maxRecDepth 100000 in
theorem am_k262_0 : ((List.range 26).map (fun i => am_ek 262 (i + 0))).all id = true := by decide +kernel
theorem am_ky262 (pc : Nat) : am_ek 262 pc = true := by
  rcases Nat.lt_or_ge pc 26 with q | q
  · exact am_ek_u am_k262_0 (by omega) (by omega)
  refine am_ek_none ?_
  show (bif Nat.blt pc 26 then am_cr262 pc else none) = none
  exact am_blt_f q _ _
set_option maxRecDepth 100000 in
theorem am_k263_0 : ((List.range 48).map (fun i => am_ek 263 (i + 0))).all id = true := by decide +kernel
set_option maxRecDepth 100000 in
theorem am_k263_1 : ((List.range 48).map (fun i => am_ek 263 (i + 48))).all id = true := by decide +kernel
set_option maxRecDepth 100000 in
theorem am_k263_2 : ((List.range 36).map (fun i => am_ek 263 (i + 96))).all id = true := by decide +kernel
theorem am_ky263 (pc : Nat) : am_ek 263 pc = true := by
  rcases Nat.lt_or_ge pc 48 with q | q
  · exact am_ek_u am_k263_0 (by omega) (by omega)
  rcases Nat.lt_or_ge pc 96 with q | q
  · exact am_ek_u am_k263_1 (by omega) (by omega)
  rcases Nat.lt_or_ge pc 132 with q | q
  · exact am_ek_u am_k263_2 (by omega) (by omega)
  refine am_ek_none ?_
  show (bif Nat.blt pc 132 then am_cr263 pc else none) = none
  exact am_blt_f q _ _
set_option maxRecDepth 100000 in
theorem am_k264_0 : ((List.range 18).map (fun i => am_ek 264 (i + 0))).all id = true := by decide +kernel
theorem am_ky264 (pc : Nat) : am_ek 264 pc = true := by
  rcases Nat.lt_or_ge pc 18 with q | q
  · exact am_ek_u am_k264_0 (by omega) (by omega)
  refine am_ek_none ?_
  show (bif Nat.blt pc 18 then am_cr264 pc else none) = none
  exact am_blt_f q _ _
set_option maxRecDepth 100000 in
theorem am_k265_0 : ((List.range 12).map (fun i => am_ek 265 (i + 0))).all id = true := by decide +kernel
theorem am_ky265 (pc : Nat) : am_ek 265 pc = true := by
  rcases Nat.lt_or_ge pc 12 with q | q
  · exact am_ek_u am_k265_0 (by omega) (by omega)
  refine am_ek_none ?_
  show (bif Nat.blt pc 12 then am_cr265 pc else none) = none
  exact am_blt_f q _ _
set_option maxRecDepth 100000 in
theorem am_k266_0 : ((List.range 48).map (fun i => am_ek 266 (i + 0))).all id = true := by decide +kernel
set_option maxRecDepth 100000 in
theorem am_k266_1 : ((List.range 48).map (fun i => am_ek 266 (i + 48))).all id = true := by decide +kernel
set_option maxRecDepth 100000 in
theorem am_k266_2 : ((List.range 48).map (fun i => am_ek 266 (i + 96))).all id = true := by decide +kernel
set_option maxRecDepth 100000 in
theorem am_k266_3 : ((List.range 48).map (fun i => am_ek 266 (i + 144))).all id = true := by decide +kernel
set_option maxRecDepth 100000 in
theorem am_k266_4 : ((List.range 39).map (fun i => am_ek 266 (i + 192))).all id = true := by decide +kernel
theorem am_ky266 (pc : Nat) : am_ek 266 pc = true := by
  rcases Nat.lt_or_ge pc 48 with q | q
  · exact am_ek_u am_k266_0 (by omega) (by omega)
  rcases Nat.lt_or_ge pc 96 with q | q
  · exact am_ek_u am_k266_1 (by omega) (by omega)
  rcases Nat.lt_or_ge pc 144 with q | q
  · exact am_ek_u am_k266_2 (by omega) (by omega)
  rcases Nat.lt_or_ge pc 192 with q | q
  · exact am_ek_u am_k266_3 (by omega) (by omega)
  rcases Nat.lt_or_ge pc 231 with q | q
  · exact am_ek_u am_k266_4 (by omega) (by omega)
  refine am_ek_none ?_
  show (bif Nat.blt pc 231 then am_cr266 pc else none) = none
  exact am_blt_f q _ _
set_option maxRecDepth 100000 in
theorem am_k267_0 : ((List.range 24).map (fun i => am_ek 267 (i + 0))).all id = true := by decide +kernel
theorem am_ky267 (pc : Nat) : am_ek 267 pc = true := by
  rcases Nat.lt_or_ge pc 24 with q | q
  · exact am_ek_u am_k267_0 (by omega) (by omega)
  refine am_ek_none ?_
  show (bif Nat.blt pc 24 then am_cr267 pc else none) = none
  exact am_blt_f q _ _
set_option maxRecDepth 100000 in
theorem am_k268_0 : ((List.range 48).map (fun i => am_ek 268 (i + 0))).all id = true := by decide +kernel
set_option maxRecDepth 100000 in
theorem am_k268_1 : ((List.range 48).map (fun i => am_ek 268 (i + 48))).all id = true := by decide +kernel
set_option maxRecDepth 100000 in
theorem am_k268_2 : ((List.range 48).map (fun i => am_ek 268 (i + 96))).all id = true := by decide +kernel
set_option maxRecDepth 100000 in
theorem am_k268_3 : ((List.range 48).map (fun i => am_ek 268 (i + 144))).all id = true := by decide +kernel
set_option maxRecDepth 100000 in
theorem am_k268_4 : ((List.range 48).map (fun i => am_ek 268 (i + 192))).all id = true := by decide +kernel
set_option maxRecDepth 100000 in
theorem am_k268_5 : ((List.range 48).map (fun i => am_ek 268 (i + 240))).all id = true := by decide +kernel
set_option maxRecDepth 100000 in
theorem am_k268_6 : ((List.range 48).map (fun i => am_ek 268 (i + 288))).all id = true := by decide +kernel
set_option maxRecDepth 100000 in
theorem am_k268_7 : ((List.range 1).map (fun i => am_ek 268 (i + 336))).all id = true := by decide +kernel
theorem am_ky268 (pc : Nat) : am_ek 268 pc = true := by
  rcases Nat.lt_or_ge pc 48 with q | q
  · exact am_ek_u am_k268_0 (by omega) (by omega)
  rcases Nat.lt_or_ge pc 96 with q | q
  · exact am_ek_u am_k268_1 (by omega) (by omega)
  rcases Nat.lt_or_ge pc 144 with q | q
  · exact am_ek_u am_k268_2 (by omega) (by omega)
  rcases Nat.lt_or_ge pc 192 with q | q
  · exact am_ek_u am_k268_3 (by omega) (by omega)
  rcases Nat.lt_or_ge pc 240 with q | q
  · exact am_ek_u am_k268_4 (by omega) (by omega)
  rcases Nat.lt_or_ge pc 288 with q | q
  · exact am_ek_u am_k268_5 (by omega) (by omega)
  rcases Nat.lt_or_ge pc 336 with q | q
  · exact am_ek_u am_k268_6 (by omega) (by omega)
  rcases Nat.lt_or_ge pc 337 with q | q
  · exact am_ek_u am_k268_7 (by omega) (by omega)
  refine am_ek_none ?_
  show (bif Nat.blt pc 337 then am_cr268 pc else none) = none
  exact am_blt_f q _ _
set_option maxRecDepth 100000 in
theorem am_k269_0 : ((List.range 48).map (fun i => am_ek 269 (i + 0))).all id = true := by decide +kernel
set_option maxRecDepth 100000 in
theorem am_k269_1 : ((List.range 32).map (fun i => am_ek 269 (i + 48))).all id = true := by decide +kernel
theorem am_ky269 (pc : Nat) : am_ek 269 pc = true := by
  rcases Nat.lt_or_ge pc 48 with q | q
  · exact am_ek_u am_k269_0 (by omega) (by omega)
  rcases Nat.lt_or_ge pc 80 with q | q
  · exact am_ek_u am_k269_1 (by omega) (by omega)
  refine am_ek_none ?_
  show (bif Nat.blt pc 80 then am_cr269 pc else none) = none
  exact am_blt_f q _ _
set_option maxRecDepth 100000 in
theorem am_k270_0 : ((List.range 48).map (fun i => am_ek 270 (i + 0))).all id = true := by decide +kernel
set_option maxRecDepth 100000 in
theorem am_k270_1 : ((List.range 48).map (fun i => am_ek 270 (i + 48))).all id = true := by decide +kernel
set_option maxRecDepth 100000 in
theorem am_k270_2 : ((List.range 48).map (fun i => am_ek 270 (i + 96))).all id = true := by decide +kernel
set_option maxRecDepth 100000 in
theorem am_k270_3 : ((List.range 48).map (fun i => am_ek 270 (i + 144))).all id = true := by decide +kernel
set_option maxRecDepth 100000 in
theorem am_k270_4 : ((List.range 48).map (fun i => am_ek 270 (i + 192))).all id = true := by decide +kernel
set_option maxRecDepth 100000 in
theorem am_k270_5 : ((List.range 48).map (fun i => am_ek 270 (i + 240))).all id = true := by decide +kernel
set_option maxRecDepth 100000 in
theorem am_k270_6 : ((List.range 48).map (fun i => am_ek 270 (i + 288))).all id = true := by decide +kernel
set_option maxRecDepth 100000 in
theorem am_k270_7 : ((List.range 19).map (fun i => am_ek 270 (i + 336))).all id = true := by decide +kernel
theorem am_ky270 (pc : Nat) : am_ek 270 pc = true := by
  rcases Nat.lt_or_ge pc 48 with q | q
  · exact am_ek_u am_k270_0 (by omega) (by omega)
  rcases Nat.lt_or_ge pc 96 with q | q
  · exact am_ek_u am_k270_1 (by omega) (by omega)
  rcases Nat.lt_or_ge pc 144 with q | q
  · exact am_ek_u am_k270_2 (by omega) (by omega)
  rcases Nat.lt_or_ge pc 192 with q | q
  · exact am_ek_u am_k270_3 (by omega) (by omega)
  rcases Nat.lt_or_ge pc 240 with q | q
  · exact am_ek_u am_k270_4 (by omega) (by omega)
  rcases Nat.lt_or_ge pc 288 with q | q
  · exact am_ek_u am_k270_5 (by omega) (by omega)
  rcases Nat.lt_or_ge pc 336 with q | q
  · exact am_ek_u am_k270_6 (by omega) (by omega)
  rcases Nat.lt_or_ge pc 355 with q | q
  · exact am_ek_u am_k270_7 (by omega) (by omega)
  refine am_ek_none ?_
  show (bif Nat.blt pc 355 then am_cr270 pc else none) = none
  exact am_blt_f q _ _
set_option maxRecDepth 100000 in
theorem am_k271_0 : ((List.range 33).map (fun i => am_ek 271 (i + 0))).all id = true := by decide +kernel
theorem am_ky271 (pc : Nat) : am_ek 271 pc = true := by
  rcases Nat.lt_or_ge pc 33 with q | q
  · exact am_ek_u am_k271_0 (by omega) (by omega)
  refine am_ek_none ?_
  show (bif Nat.blt pc 33 then am_cr271 pc else none) = none
  exact am_blt_f q _ _
set_option maxRecDepth 100000 in
theorem am_k272_0 : ((List.range 31).map (fun i => am_ek 272 (i + 0))).all id = true := by decide +kernel
theorem am_ky272 (pc : Nat) : am_ek 272 pc = true := by
  rcases Nat.lt_or_ge pc 31 with q | q
  · exact am_ek_u am_k272_0 (by omega) (by omega)
  refine am_ek_none ?_
  show (bif Nat.blt pc 31 then am_cr272 pc else none) = none
  exact am_blt_f q _ _
set_option maxRecDepth 100000 in
theorem am_k273_0 : ((List.range 27).map (fun i => am_ek 273 (i + 0))).all id = true := by decide +kernel
theorem am_ky273 (pc : Nat) : am_ek 273 pc = true := by
  rcases Nat.lt_or_ge pc 27 with q | q
  · exact am_ek_u am_k273_0 (by omega) (by omega)
  refine am_ek_none ?_
  show (bif Nat.blt pc 27 then am_cr273 pc else none) = none
  exact am_blt_f q _ _
set_option maxRecDepth 100000 in
theorem am_k274_0 : ((List.range 48).map (fun i => am_ek 274 (i + 0))).all id = true := by decide +kernel
set_option maxRecDepth 100000 in
theorem am_k274_1 : ((List.range 48).map (fun i => am_ek 274 (i + 48))).all id = true := by decide +kernel
set_option maxRecDepth 100000 in
theorem am_k274_2 : ((List.range 48).map (fun i => am_ek 274 (i + 96))).all id = true := by decide +kernel
set_option maxRecDepth 100000 in
theorem am_k274_3 : ((List.range 14).map (fun i => am_ek 274 (i + 144))).all id = true := by decide +kernel
theorem am_ky274 (pc : Nat) : am_ek 274 pc = true := by
  rcases Nat.lt_or_ge pc 48 with q | q
  · exact am_ek_u am_k274_0 (by omega) (by omega)
  rcases Nat.lt_or_ge pc 96 with q | q
  · exact am_ek_u am_k274_1 (by omega) (by omega)
  rcases Nat.lt_or_ge pc 144 with q | q
  · exact am_ek_u am_k274_2 (by omega) (by omega)
  rcases Nat.lt_or_ge pc 158 with q | q
  · exact am_ek_u am_k274_3 (by omega) (by omega)
  refine am_ek_none ?_
  show (bif Nat.blt pc 158 then am_cr274 pc else none) = none
  exact am_blt_f q _ _
set_option maxRecDepth 100000 in
theorem am_k275_0 : ((List.range 48).map (fun i => am_ek 275 (i + 0))).all id = true := by decide +kernel
set_option maxRecDepth 100000 in
theorem am_k275_1 : ((List.range 48).map (fun i => am_ek 275 (i + 48))).all id = true := by decide +kernel
set_option maxRecDepth 100000 in
theorem am_k275_2 : ((List.range 48).map (fun i => am_ek 275 (i + 96))).all id = true := by decide +kernel
set_option maxRecDepth 100000 in
theorem am_k275_3 : ((List.range 48).map (fun i => am_ek 275 (i + 144))).all id = true := by decide +kernel
set_option maxRecDepth 100000 in
theorem am_k275_4 : ((List.range 1).map (fun i => am_ek 275 (i + 192))).all id = true := by decide +kernel
theorem am_ky275 (pc : Nat) : am_ek 275 pc = true := by
  rcases Nat.lt_or_ge pc 48 with q | q
  · exact am_ek_u am_k275_0 (by omega) (by omega)
  rcases Nat.lt_or_ge pc 96 with q | q
  · exact am_ek_u am_k275_1 (by omega) (by omega)
  rcases Nat.lt_or_ge pc 144 with q | q
  · exact am_ek_u am_k275_2 (by omega) (by omega)
  rcases Nat.lt_or_ge pc 192 with q | q
  · exact am_ek_u am_k275_3 (by omega) (by omega)
  rcases Nat.lt_or_ge pc 193 with q | q
  · exact am_ek_u am_k275_4 (by omega) (by omega)
  refine am_ek_none ?_
  show (bif Nat.blt pc 193 then am_cr275 pc else none) = none
  exact am_blt_f q _ _
set_option maxRecDepth 100000 in
theorem am_k276_0 : ((List.range 48).map (fun i => am_ek 276 (i + 0))).all id = true := by decide +kernel
set_option maxRecDepth 100000 in
theorem am_k276_1 : ((List.range 48).map (fun i => am_ek 276 (i + 48))).all id = true := by decide +kernel
set_option maxRecDepth 100000 in
theorem am_k276_2 : ((List.range 48).map (fun i => am_ek 276 (i + 96))).all id = true := by decide +kernel
set_option maxRecDepth 100000 in
theorem am_k276_3 : ((List.range 48).map (fun i => am_ek 276 (i + 144))).all id = true := by decide +kernel
set_option maxRecDepth 100000 in
theorem am_k276_4 : ((List.range 48).map (fun i => am_ek 276 (i + 192))).all id = true := by decide +kernel
set_option maxRecDepth 100000 in
theorem am_k276_5 : ((List.range 48).map (fun i => am_ek 276 (i + 240))).all id = true := by decide +kernel
set_option maxRecDepth 100000 in
theorem am_k276_6 : ((List.range 48).map (fun i => am_ek 276 (i + 288))).all id = true := by decide +kernel
set_option maxRecDepth 100000 in
theorem am_k276_7 : ((List.range 48).map (fun i => am_ek 276 (i + 336))).all id = true := by decide +kernel
set_option maxRecDepth 100000 in
theorem am_k276_8 : ((List.range 48).map (fun i => am_ek 276 (i + 384))).all id = true := by decide +kernel
set_option maxRecDepth 100000 in
theorem am_k276_9 : ((List.range 48).map (fun i => am_ek 276 (i + 432))).all id = true := by decide +kernel
set_option maxRecDepth 100000 in
theorem am_k276_10 : ((List.range 48).map (fun i => am_ek 276 (i + 480))).all id = true := by decide +kernel
set_option maxRecDepth 100000 in
theorem am_k276_11 : ((List.range 48).map (fun i => am_ek 276 (i + 528))).all id = true := by decide +kernel
set_option maxRecDepth 100000 in
theorem am_k276_12 : ((List.range 48).map (fun i => am_ek 276 (i + 576))).all id = true := by decide +kernel
set_option maxRecDepth 100000 in
theorem am_k276_13 : ((List.range 48).map (fun i => am_ek 276 (i + 624))).all id = true := by decide +kernel
set_option maxRecDepth 100000 in
theorem am_k276_14 : ((List.range 48).map (fun i => am_ek 276 (i + 672))).all id = true := by decide +kernel
set_option maxRecDepth 100000 in
theorem am_k276_15 : ((List.range 48).map (fun i => am_ek 276 (i + 720))).all id = true := by decide +kernel
set_option maxRecDepth 100000 in
theorem am_k276_16 : ((List.range 48).map (fun i => am_ek 276 (i + 768))).all id = true := by decide +kernel
set_option maxRecDepth 100000 in
theorem am_k276_17 : ((List.range 48).map (fun i => am_ek 276 (i + 816))).all id = true := by decide +kernel
set_option maxRecDepth 100000 in
theorem am_k276_18 : ((List.range 48).map (fun i => am_ek 276 (i + 864))).all id = true := by decide +kernel
set_option maxRecDepth 100000 in
theorem am_k276_19 : ((List.range 48).map (fun i => am_ek 276 (i + 912))).all id = true := by decide +kernel
set_option maxRecDepth 100000 in
theorem am_k276_20 : ((List.range 48).map (fun i => am_ek 276 (i + 960))).all id = true := by decide +kernel
set_option maxRecDepth 100000 in
theorem am_k276_21 : ((List.range 48).map (fun i => am_ek 276 (i + 1008))).all id = true := by decide +kernel
set_option maxRecDepth 100000 in
theorem am_k276_22 : ((List.range 48).map (fun i => am_ek 276 (i + 1056))).all id = true := by decide +kernel
set_option maxRecDepth 100000 in
theorem am_k276_23 : ((List.range 48).map (fun i => am_ek 276 (i + 1104))).all id = true := by decide +kernel
set_option maxRecDepth 100000 in
theorem am_k276_24 : ((List.range 48).map (fun i => am_ek 276 (i + 1152))).all id = true := by decide +kernel
set_option maxRecDepth 100000 in
theorem am_k276_25 : ((List.range 48).map (fun i => am_ek 276 (i + 1200))).all id = true := by decide +kernel
set_option maxRecDepth 100000 in
theorem am_k276_26 : ((List.range 48).map (fun i => am_ek 276 (i + 1248))).all id = true := by decide +kernel
set_option maxRecDepth 100000 in
theorem am_k276_27 : ((List.range 48).map (fun i => am_ek 276 (i + 1296))).all id = true := by decide +kernel
set_option maxRecDepth 100000 in
theorem am_k276_28 : ((List.range 48).map (fun i => am_ek 276 (i + 1344))).all id = true := by decide +kernel
set_option maxRecDepth 100000 in
theorem am_k276_29 : ((List.range 48).map (fun i => am_ek 276 (i + 1392))).all id = true := by decide +kernel
set_option maxRecDepth 100000 in
theorem am_k276_30 : ((List.range 48).map (fun i => am_ek 276 (i + 1440))).all id = true := by decide +kernel
set_option maxRecDepth 100000 in
theorem am_k276_31 : ((List.range 48).map (fun i => am_ek 276 (i + 1488))).all id = true := by decide +kernel
set_option maxRecDepth 100000 in
theorem am_k276_32 : ((List.range 48).map (fun i => am_ek 276 (i + 1536))).all id = true := by decide +kernel
set_option maxRecDepth 100000 in
theorem am_k276_33 : ((List.range 48).map (fun i => am_ek 276 (i + 1584))).all id = true := by decide +kernel
set_option maxRecDepth 100000 in
theorem am_k276_34 : ((List.range 48).map (fun i => am_ek 276 (i + 1632))).all id = true := by decide +kernel
set_option maxRecDepth 100000 in
theorem am_k276_35 : ((List.range 9).map (fun i => am_ek 276 (i + 1680))).all id = true := by decide +kernel
theorem am_ky276 (pc : Nat) : am_ek 276 pc = true := by
  rcases Nat.lt_or_ge pc 48 with q | q
  · exact am_ek_u am_k276_0 (by omega) (by omega)
  rcases Nat.lt_or_ge pc 96 with q | q
  · exact am_ek_u am_k276_1 (by omega) (by omega)
  rcases Nat.lt_or_ge pc 144 with q | q
  · exact am_ek_u am_k276_2 (by omega) (by omega)
  rcases Nat.lt_or_ge pc 192 with q | q
  · exact am_ek_u am_k276_3 (by omega) (by omega)
  rcases Nat.lt_or_ge pc 240 with q | q
  · exact am_ek_u am_k276_4 (by omega) (by omega)
  rcases Nat.lt_or_ge pc 288 with q | q
  · exact am_ek_u am_k276_5 (by omega) (by omega)
  rcases Nat.lt_or_ge pc 336 with q | q
  · exact am_ek_u am_k276_6 (by omega) (by omega)
  rcases Nat.lt_or_ge pc 384 with q | q
  · exact am_ek_u am_k276_7 (by omega) (by omega)
  rcases Nat.lt_or_ge pc 432 with q | q
  · exact am_ek_u am_k276_8 (by omega) (by omega)
  rcases Nat.lt_or_ge pc 480 with q | q
  · exact am_ek_u am_k276_9 (by omega) (by omega)
  rcases Nat.lt_or_ge pc 528 with q | q
  · exact am_ek_u am_k276_10 (by omega) (by omega)
  rcases Nat.lt_or_ge pc 576 with q | q
  · exact am_ek_u am_k276_11 (by omega) (by omega)
  rcases Nat.lt_or_ge pc 624 with q | q
  · exact am_ek_u am_k276_12 (by omega) (by omega)
  rcases Nat.lt_or_ge pc 672 with q | q
  · exact am_ek_u am_k276_13 (by omega) (by omega)
  rcases Nat.lt_or_ge pc 720 with q | q
  · exact am_ek_u am_k276_14 (by omega) (by omega)
  rcases Nat.lt_or_ge pc 768 with q | q
  · exact am_ek_u am_k276_15 (by omega) (by omega)
  rcases Nat.lt_or_ge pc 816 with q | q
  · exact am_ek_u am_k276_16 (by omega) (by omega)
  rcases Nat.lt_or_ge pc 864 with q | q
  · exact am_ek_u am_k276_17 (by omega) (by omega)
  rcases Nat.lt_or_ge pc 912 with q | q
  · exact am_ek_u am_k276_18 (by omega) (by omega)
  rcases Nat.lt_or_ge pc 960 with q | q
  · exact am_ek_u am_k276_19 (by omega) (by omega)
  rcases Nat.lt_or_ge pc 1008 with q | q
  · exact am_ek_u am_k276_20 (by omega) (by omega)
  rcases Nat.lt_or_ge pc 1056 with q | q
  · exact am_ek_u am_k276_21 (by omega) (by omega)
  rcases Nat.lt_or_ge pc 1104 with q | q
  · exact am_ek_u am_k276_22 (by omega) (by omega)
  rcases Nat.lt_or_ge pc 1152 with q | q
  · exact am_ek_u am_k276_23 (by omega) (by omega)
  rcases Nat.lt_or_ge pc 1200 with q | q
  · exact am_ek_u am_k276_24 (by omega) (by omega)
  rcases Nat.lt_or_ge pc 1248 with q | q
  · exact am_ek_u am_k276_25 (by omega) (by omega)
  rcases Nat.lt_or_ge pc 1296 with q | q
  · exact am_ek_u am_k276_26 (by omega) (by omega)
  rcases Nat.lt_or_ge pc 1344 with q | q
  · exact am_ek_u am_k276_27 (by omega) (by omega)
  rcases Nat.lt_or_ge pc 1392 with q | q
  · exact am_ek_u am_k276_28 (by omega) (by omega)
  rcases Nat.lt_or_ge pc 1440 with q | q
  · exact am_ek_u am_k276_29 (by omega) (by omega)
  rcases Nat.lt_or_ge pc 1488 with q | q
  · exact am_ek_u am_k276_30 (by omega) (by omega)
  rcases Nat.lt_or_ge pc 1536 with q | q
  · exact am_ek_u am_k276_31 (by omega) (by omega)
  rcases Nat.lt_or_ge pc 1584 with q | q
  · exact am_ek_u am_k276_32 (by omega) (by omega)
  rcases Nat.lt_or_ge pc 1632 with q | q
  · exact am_ek_u am_k276_33 (by omega) (by omega)
  rcases Nat.lt_or_ge pc 1680 with q | q
  · exact am_ek_u am_k276_34 (by omega) (by omega)
  rcases Nat.lt_or_ge pc 1689 with q | q
  · exact am_ek_u am_k276_35 (by omega) (by omega)
  refine am_ek_none ?_
  show (bif Nat.blt pc 1689 then am_cr276 pc else none) = none
  exact am_blt_f q _ _
theorem am_kg0 (j pc : Nat) (h : j < 16) : am_ek (j + 0) pc = true := by
  rcases j with _ | _ | _ | _ | _ | _ | _ | _ | _ | _ | _ | _ | _ | _ | _ | _ | j
  · exact am_ky0 pc
  · exact am_ky1 pc
  · exact am_ky2 pc
  · exact am_ky3 pc
  · exact am_ky4 pc
  · exact am_ky5 pc
  · exact am_ky6 pc
  · exact am_ky7 pc
  · exact am_ky8 pc
  · exact am_ky9 pc
  · exact am_ky10 pc
  · exact am_ky11 pc
  · exact am_ky12 pc
  · exact am_ky13 pc
  · exact am_ky14 pc
  · exact am_ky15 pc
  · exact absurd h (by omega)
theorem am_kg16 (j pc : Nat) (h : j < 16) : am_ek (j + 16) pc = true := by
  rcases j with _ | _ | _ | _ | _ | _ | _ | _ | _ | _ | _ | _ | _ | _ | _ | _ | j
  · exact am_ky16 pc
  · exact am_ky17 pc
  · exact am_ky18 pc
  · exact am_ky19 pc
  · exact am_ky20 pc
  · exact am_ky21 pc
  · exact am_ky22 pc
  · exact am_ky23 pc
  · exact am_ky24 pc
  · exact am_ky25 pc
  · exact am_ky26 pc
  · exact am_ky27 pc
  · exact am_ky28 pc
  · exact am_ky29 pc
  · exact am_ky30 pc
  · exact am_ky31 pc
  · exact absurd h (by omega)
theorem am_kg32 (j pc : Nat) (h : j < 16) : am_ek (j + 32) pc = true := by
  rcases j with _ | _ | _ | _ | _ | _ | _ | _ | _ | _ | _ | _ | _ | _ | _ | _ | j
  · exact am_ky32 pc
  · exact am_ky33 pc
  · exact am_ky34 pc
  · exact am_ky35 pc
  · exact am_ky36 pc
  · exact am_ky37 pc
  · exact am_ky38 pc
  · exact am_ky39 pc
  · exact am_ky40 pc
  · exact am_ky41 pc
  · exact am_ky42 pc
  · exact am_ky43 pc
  · exact am_ky44 pc
  · exact am_ky45 pc
  · exact am_ky46 pc
  · exact am_ky47 pc
  · exact absurd h (by omega)
theorem am_kg48 (j pc : Nat) (h : j < 16) : am_ek (j + 48) pc = true := by
  rcases j with _ | _ | _ | _ | _ | _ | _ | _ | _ | _ | _ | _ | _ | _ | _ | _ | j
  · exact am_ky48 pc
  · exact am_ky49 pc
  · exact am_ky50 pc
  · exact am_ky51 pc
  · exact am_ky52 pc
  · exact am_ky53 pc
  · exact am_ky54 pc
  · exact am_ky55 pc
  · exact am_ky56 pc
  · exact am_ky57 pc
  · exact am_ky58 pc
  · exact am_ky59 pc
  · exact am_ky60 pc
  · exact am_ky61 pc
  · exact am_ky62 pc
  · exact am_ky63 pc
  · exact absurd h (by omega)
theorem am_kg64 (j pc : Nat) (h : j < 16) : am_ek (j + 64) pc = true := by
  rcases j with _ | _ | _ | _ | _ | _ | _ | _ | _ | _ | _ | _ | _ | _ | _ | _ | j
  · exact am_ky64 pc
  · exact am_ky65 pc
  · exact am_ky66 pc
  · exact am_ky67 pc
  · exact am_ky68 pc
  · exact am_ky69 pc
  · exact am_ky70 pc
  · exact am_ky71 pc
  · exact am_ky72 pc
  · exact am_ky73 pc
  · exact am_ky74 pc
  · exact am_ky75 pc
  · exact am_ky76 pc
  · exact am_ky77 pc
  · exact am_ky78 pc
  · exact am_ky79 pc
  · exact absurd h (by omega)
theorem am_kg80 (j pc : Nat) (h : j < 16) : am_ek (j + 80) pc = true := by
  rcases j with _ | _ | _ | _ | _ | _ | _ | _ | _ | _ | _ | _ | _ | _ | _ | _ | j
  · exact am_ky80 pc
  · exact am_ky81 pc
  · exact am_ky82 pc
  · exact am_ky83 pc
  · exact am_ky84 pc
  · exact am_ky85 pc
  · exact am_ky86 pc
  · exact am_ky87 pc
  · exact am_ky88 pc
  · exact am_ky89 pc
  · exact am_ky90 pc
  · exact am_ky91 pc
  · exact am_ky92 pc
  · exact am_ky93 pc
  · exact am_ky94 pc
  · exact am_ky95 pc
  · exact absurd h (by omega)
theorem am_kg96 (j pc : Nat) (h : j < 16) : am_ek (j + 96) pc = true := by
  rcases j with _ | _ | _ | _ | _ | _ | _ | _ | _ | _ | _ | _ | _ | _ | _ | _ | j
  · exact am_ky96 pc
  · exact am_ky97 pc
  · exact am_ky98 pc
  · exact am_ky99 pc
  · exact am_ky100 pc
  · exact am_ky101 pc
  · exact am_ky102 pc
  · exact am_ky103 pc
  · exact am_ky104 pc
  · exact am_ky105 pc
  · exact am_ky106 pc
  · exact am_ky107 pc
  · exact am_ky108 pc
  · exact am_ky109 pc
  · exact am_ky110 pc
  · exact am_ky111 pc
  · exact absurd h (by omega)
theorem am_kg112 (j pc : Nat) (h : j < 16) : am_ek (j + 112) pc = true := by
  rcases j with _ | _ | _ | _ | _ | _ | _ | _ | _ | _ | _ | _ | _ | _ | _ | _ | j
  · exact am_ky112 pc
  · exact am_ky113 pc
  · exact am_ky114 pc
  · exact am_ky115 pc
  · exact am_ky116 pc
  · exact am_ky117 pc
  · exact am_ky118 pc
  · exact am_ky119 pc
  · exact am_ky120 pc
  · exact am_ky121 pc
  · exact am_ky122 pc
  · exact am_ky123 pc
  · exact am_ky124 pc
  · exact am_ky125 pc
  · exact am_ky126 pc
  · exact am_ky127 pc
  · exact absurd h (by omega)
theorem am_kg128 (j pc : Nat) (h : j < 16) : am_ek (j + 128) pc = true := by
  rcases j with _ | _ | _ | _ | _ | _ | _ | _ | _ | _ | _ | _ | _ | _ | _ | _ | j
  · exact am_ky128 pc
  · exact am_ky129 pc
  · exact am_ky130 pc
  · exact am_ky131 pc
  · exact am_ky132 pc
  · exact am_ky133 pc
  · exact am_ky134 pc
  · exact am_ky135 pc
  · exact am_ky136 pc
  · exact am_ky137 pc
  · exact am_ky138 pc
  · exact am_ky139 pc
  · exact am_ky140 pc
  · exact am_ky141 pc
  · exact am_ky142 pc
  · exact am_ky143 pc
  · exact absurd h (by omega)
theorem am_kg144 (j pc : Nat) (h : j < 16) : am_ek (j + 144) pc = true := by
  rcases j with _ | _ | _ | _ | _ | _ | _ | _ | _ | _ | _ | _ | _ | _ | _ | _ | j
  · exact am_ky144 pc
  · exact am_ky145 pc
  · exact am_ky146 pc
  · exact am_ky147 pc
  · exact am_ky148 pc
  · exact am_ky149 pc
  · exact am_ky150 pc
  · exact am_ky151 pc
  · exact am_ky152 pc
  · exact am_ky153 pc
  · exact am_ky154 pc
  · exact am_ky155 pc
  · exact am_ky156 pc
  · exact am_ky157 pc
  · exact am_ky158 pc
  · exact am_ky159 pc
  · exact absurd h (by omega)
theorem am_kg160 (j pc : Nat) (h : j < 16) : am_ek (j + 160) pc = true := by
  rcases j with _ | _ | _ | _ | _ | _ | _ | _ | _ | _ | _ | _ | _ | _ | _ | _ | j
  · exact am_ky160 pc
  · exact am_ky161 pc
  · exact am_ky162 pc
  · exact am_ky163 pc
  · exact am_ky164 pc
  · exact am_ky165 pc
  · exact am_ky166 pc
  · exact am_ky167 pc
  · exact am_ky168 pc
  · exact am_ky169 pc
  · exact am_ky170 pc
  · exact am_ky171 pc
  · exact am_ky172 pc
  · exact am_ky173 pc
  · exact am_ky174 pc
  · exact am_ky175 pc
  · exact absurd h (by omega)
theorem am_kg176 (j pc : Nat) (h : j < 16) : am_ek (j + 176) pc = true := by
  rcases j with _ | _ | _ | _ | _ | _ | _ | _ | _ | _ | _ | _ | _ | _ | _ | _ | j
  · exact am_ky176 pc
  · exact am_ky177 pc
  · exact am_ky178 pc
  · exact am_ky179 pc
  · exact am_ky180 pc
  · exact am_ky181 pc
  · exact am_ky182 pc
  · exact am_ky183 pc
  · exact am_ky184 pc
  · exact am_ky185 pc
  · exact am_ky186 pc
  · exact am_ky187 pc
  · exact am_ky188 pc
  · exact am_ky189 pc
  · exact am_ky190 pc
  · exact am_ky191 pc
  · exact absurd h (by omega)
theorem am_kg192 (j pc : Nat) (h : j < 16) : am_ek (j + 192) pc = true := by
  rcases j with _ | _ | _ | _ | _ | _ | _ | _ | _ | _ | _ | _ | _ | _ | _ | _ | j
  · exact am_ky192 pc
  · exact am_ky193 pc
  · exact am_ky194 pc
  · exact am_ky195 pc
  · exact am_ky196 pc
  · exact am_ky197 pc
  · exact am_ky198 pc
  · exact am_ky199 pc
  · exact am_ky200 pc
  · exact am_ky201 pc
  · exact am_ky202 pc
  · exact am_ky203 pc
  · exact am_ky204 pc
  · exact am_ky205 pc
  · exact am_ky206 pc
  · exact am_ky207 pc
  · exact absurd h (by omega)
theorem am_kg208 (j pc : Nat) (h : j < 16) : am_ek (j + 208) pc = true := by
  rcases j with _ | _ | _ | _ | _ | _ | _ | _ | _ | _ | _ | _ | _ | _ | _ | _ | j
  · exact am_ky208 pc
  · exact am_ky209 pc
  · exact am_ky210 pc
  · exact am_ky211 pc
  · exact am_ky212 pc
  · exact am_ky213 pc
  · exact am_ky214 pc
  · exact am_ky215 pc
  · exact am_ky216 pc
  · exact am_ky217 pc
  · exact am_ky218 pc
  · exact am_ky219 pc
  · exact am_ky220 pc
  · exact am_ky221 pc
  · exact am_ky222 pc
  · exact am_ky223 pc
  · exact absurd h (by omega)
theorem am_kg224 (j pc : Nat) (h : j < 16) : am_ek (j + 224) pc = true := by
  rcases j with _ | _ | _ | _ | _ | _ | _ | _ | _ | _ | _ | _ | _ | _ | _ | _ | j
  · exact am_ky224 pc
  · exact am_ky225 pc
  · exact am_ky226 pc
  · exact am_ky227 pc
  · exact am_ky228 pc
  · exact am_ky229 pc
  · exact am_ky230 pc
  · exact am_ky231 pc
  · exact am_ky232 pc
  · exact am_ky233 pc
  · exact am_ky234 pc
  · exact am_ky235 pc
  · exact am_ky236 pc
  · exact am_ky237 pc
  · exact am_ky238 pc
  · exact am_ky239 pc
  · exact absurd h (by omega)
theorem am_kg240 (j pc : Nat) (h : j < 16) : am_ek (j + 240) pc = true := by
  rcases j with _ | _ | _ | _ | _ | _ | _ | _ | _ | _ | _ | _ | _ | _ | _ | _ | j
  · exact am_ky240 pc
  · exact am_ky241 pc
  · exact am_ky242 pc
  · exact am_ky243 pc
  · exact am_ky244 pc
  · exact am_ky245 pc
  · exact am_ky246 pc
  · exact am_ky247 pc
  · exact am_ky248 pc
  · exact am_ky249 pc
  · exact am_ky250 pc
  · exact am_ky251 pc
  · exact am_ky252 pc
  · exact am_ky253 pc
  · exact am_ky254 pc
  · exact am_ky255 pc
  · exact absurd h (by omega)
theorem am_kg256 (j pc : Nat) (h : j < 16) : am_ek (j + 256) pc = true := by
  rcases j with _ | _ | _ | _ | _ | _ | _ | _ | _ | _ | _ | _ | _ | _ | _ | _ | j
  · exact am_ky256 pc
  · exact am_ky257 pc
  · exact am_ky258 pc
  · exact am_ky259 pc
  · exact am_ky260 pc
  · exact am_ky261 pc
  · exact am_ky262 pc
  · exact am_ky263 pc
  · exact am_ky264 pc
  · exact am_ky265 pc
  · exact am_ky266 pc
  · exact am_ky267 pc
  · exact am_ky268 pc
  · exact am_ky269 pc
  · exact am_ky270 pc
  · exact am_ky271 pc
  · exact absurd h (by omega)
theorem am_kg272 (j pc : Nat) (h : j < 5) : am_ek (j + 272) pc = true := by
  rcases j with _ | _ | _ | _ | _ | j
  · exact am_ky272 pc
  · exact am_ky273 pc
  · exact am_ky274 pc
  · exact am_ky275 pc
  · exact am_ky276 pc
  · exact absurd h (by omega)
theorem am_ek_ok (y pc : Nat) : am_ek y pc = true := by
  rcases Nat.lt_or_ge y 277 with h | h
  · rcases Nat.lt_or_ge y 16 with q | q
    · have := am_kg0 (y - 0) pc (by omega)
      rwa [Nat.sub_add_cancel (by omega)] at this
    rcases Nat.lt_or_ge y 32 with q | q
    · have := am_kg16 (y - 16) pc (by omega)
      rwa [Nat.sub_add_cancel (by omega)] at this
    rcases Nat.lt_or_ge y 48 with q | q
    · have := am_kg32 (y - 32) pc (by omega)
      rwa [Nat.sub_add_cancel (by omega)] at this
    rcases Nat.lt_or_ge y 64 with q | q
    · have := am_kg48 (y - 48) pc (by omega)
      rwa [Nat.sub_add_cancel (by omega)] at this
    rcases Nat.lt_or_ge y 80 with q | q
    · have := am_kg64 (y - 64) pc (by omega)
      rwa [Nat.sub_add_cancel (by omega)] at this
    rcases Nat.lt_or_ge y 96 with q | q
    · have := am_kg80 (y - 80) pc (by omega)
      rwa [Nat.sub_add_cancel (by omega)] at this
    rcases Nat.lt_or_ge y 112 with q | q
    · have := am_kg96 (y - 96) pc (by omega)
      rwa [Nat.sub_add_cancel (by omega)] at this
    rcases Nat.lt_or_ge y 128 with q | q
    · have := am_kg112 (y - 112) pc (by omega)
      rwa [Nat.sub_add_cancel (by omega)] at this
    rcases Nat.lt_or_ge y 144 with q | q
    · have := am_kg128 (y - 128) pc (by omega)
      rwa [Nat.sub_add_cancel (by omega)] at this
    rcases Nat.lt_or_ge y 160 with q | q
    · have := am_kg144 (y - 144) pc (by omega)
      rwa [Nat.sub_add_cancel (by omega)] at this
    rcases Nat.lt_or_ge y 176 with q | q
    · have := am_kg160 (y - 160) pc (by omega)
      rwa [Nat.sub_add_cancel (by omega)] at this
    rcases Nat.lt_or_ge y 192 with q | q
    · have := am_kg176 (y - 176) pc (by omega)
      rwa [Nat.sub_add_cancel (by omega)] at this
    rcases Nat.lt_or_ge y 208 with q | q
    · have := am_kg192 (y - 192) pc (by omega)
      rwa [Nat.sub_add_cancel (by omega)] at this
    rcases Nat.lt_or_ge y 224 with q | q
    · have := am_kg208 (y - 208) pc (by omega)
      rwa [Nat.sub_add_cancel (by omega)] at this
    rcases Nat.lt_or_ge y 240 with q | q
    · have := am_kg224 (y - 224) pc (by omega)
      rwa [Nat.sub_add_cancel (by omega)] at this
    rcases Nat.lt_or_ge y 256 with q | q
    · have := am_kg240 (y - 240) pc (by omega)
      rwa [Nat.sub_add_cancel (by omega)] at this
    rcases Nat.lt_or_ge y 272 with q | q
    · have := am_kg256 (y - 256) pc (by omega)
      rwa [Nat.sub_add_cancel (by omega)] at this
    have := am_kg272 (y - 272) pc (by omega)
    rwa [Nat.sub_add_cancel (by omega)] at this
  · refine am_ek_none ?_
    show (bif Nat.blt y 277 then am_codr y pc else none) = none
    exact am_blt_f h _ _
set_option maxRecDepth 100000 in
theorem am_rt_rk : ∀ y, y < 277 → am_rt y = am_rkT (am_rk y) := by decide +kernel
set_option maxRecDepth 100000 in
theorem am_ini_ok : ∀ y, y < 277 → am_ini y = true → (am_nm y).name = "<init>" := by
  intro y h
  have key : (List.range 277).map (fun y => (am_nm y).name) = (List.range 277).map (fun y => bif am_ini y then "<init>" else (am_nm y).name) := rfl
  have h1 := congrArg (fun l => l[y]?) key
  simp only [List.getElem?_map, List.getElem?_range h, Option.map_some, Option.some.injEq] at h1
  intro hi
  rw [hi] at h1
  exact h1
