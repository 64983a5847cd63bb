def am_ini : Nat → Bool := fun i => bif Nat.blt i 6 then (bif Nat.blt i 3 then (bif Nat.blt i 2 then (bif Nat.beq i 1 then true else false) else (bif Nat.beq i 2 then true else false)) else (bif Nat.blt i 4 then (bif Nat.beq i 3 then true else false) else (bif Nat.blt i 5 then (bif Nat.beq i 4 then true else false) else (bif Nat.beq i 5 then true else false)))) else (bif Nat.blt i 9 then (bif Nat.blt i 7 then (bif Nat.beq i 6 then true else false) else (bif Nat.blt i 8 then (bif Nat.beq i 7 then true else false) else (bif Nat.beq i 8 then true else false))) else (bif Nat.blt i 10 then (bif Nat.beq i 9 then true else false) else (bif Nat.blt i 11 then (bif Nat.beq i 10 then true else false) else (bif Nat.beq i 11 then true else false))))
def am_tykl : Nat → List Nat := fun i => bif Nat.blt i 5 then (bif Nat.blt i 2 then (bif Nat.blt i 1 then (bif Nat.beq i 0 then [3, 3, 0, 1, 1, 1] else []) else (bif Nat.beq i 1 then [3, 3, 3, 3, 3, 0, 0] else [])) else (bif Nat.blt i 3 then (bif Nat.beq i 2 then [3, 0, 0, 0, 0, 0, 0, 0, 0, 0, 0, 0] else []) else (bif Nat.blt i 4 then (bif Nat.beq i 3 then [0, 3, 3, 0, 3, 3, 3, 3, 3, 0, 3, 3, 3, 3, 3, 0, 0, 0] else []) else (bif Nat.beq i 4 then [3, 3, 3, 0] else [])))) else (bif Nat.blt i 8 then (bif Nat.blt i 6 then (bif Nat.beq i 5 then [3, 3, 0, 0, 3, 3, 3, 3, 3, 3, 0, 3, 3, 3, 3] else []) else (bif Nat.blt i 7 then (bif Nat.beq i 6 then [3, 0, 0, 0] else []) else (bif Nat.beq i 7 then [3, 3, 3, 3, 0] else []))) else (bif Nat.blt i 9 then (bif Nat.beq i 8 then [3, 3, 3, 3, 3, 0, 0, 0, 0, 0, 0, 0, 0, 0, 0, 1] else []) else (bif Nat.blt i 10 then (bif Nat.beq i 9 then [3, 3, 3, 3, 3, 3, 3, 3, 3, 3, 3, 2, 0] else []) else (bif Nat.beq i 10 then [0, 0, 0, 0, 0, 0, 0, 0, 0, 3, 3, 3, 3, 3, 3, 3, 3, 3, 3, 3, 3, 3, 3, 3, 3, 3, 3, 3, 3, 3, 3, 3, 3, 3, 3, 0, 3, 3, 3, 3, 3, 3, 3, 3, 3, 3, 3, 3, 3, 3, 3, 3, 0, 3, 3, 3, 3, 3, 3, 3, 3, 3, 3, 3, 0, 0, 0, 0, 3, 0, 0, 2, 3, 3, 3, 3, 3, 3, 3] else []))))
def am_tyk (c k : Nat) : Nat := am_at 9 (am_tykl c) k
def am_il : Instr → Nat
  | .bipush _ => 2
  | .iload _ => 2
  | .lload _ => 2
  | .aload _ => 2
  | .istore _ => 2
  | .lstore _ => 2
  | .astore _ => 2
  | .ldc _ => 2
  | .newarray _ => 2
  | .sipush _ => 3
  | .iinc _ _ => 3
  | .goto _ => 3
  | .ifCond _ _ => 3
  | .if_icmp _ _ => 3
  | .ifnonnull _ => 3
  | .getfield _ => 3
  | .putfield _ => 3
  | .getstatic _ => 3
  | .invokevirtual _ => 3
  | .invokestatic _ => 3
  | .invokespecial _ => 3
  | .new _ => 3
  | .anewarray _ => 3
  | .ldc_w _ => 3
  | .ldc2_w _ => 3
  | _ => 1
def am_isw (i : Instr) : Bool := match i with
  | .tableswitch _ _ _ _ => true
  | .lookupswitch _ _ => true
  | _ => false
def am_rkT (k : Nat) : Option FieldType := bif Nat.beq k 0 then some .int else bif Nat.beq k 1 then some .long else bif Nat.beq k 2 then some .boolean else bif Nat.beq k 3 then some .char else bif Nat.beq k 4 then some .byte else bif Nat.beq k 16 then some (.object "java/lang/String") else none
def am_rkt (k : Nat) : Nat := bif Nat.beq k 1 then 1 else bif Nat.beq k 9 then 9 else bif Nat.beq k 16 then 16 else 0
def am_okf (own i : Nat) (x : Nat × Nat × Nat × Nat) : Bool := (am_flk own).any (fun f => Nat.beq f.1 i && Nat.beq f.2.1 x.1 && Nat.beq f.2.2.1 x.2.1)
def am_oki (x : Nat × Nat × Nat × Nat) : Bool := Nat.blt x.1 11 && Nat.blt x.2.1 (am_ft x.1).length && Nat.beq x.2.2.1 (am_at 0 (am_ft x.1) x.2.1)
def am_okc (own i y kind : Nat) : Bool := (am_clk own).any (fun f => Nat.beq f.1 i && Nat.beq f.2.1 y && Nat.beq f.2.2.1 kind)
def am_xok (y pc : Nat) (i : Instr) (x : Nat × Nat × Nat × Nat) : Bool := match i with
  | .goto o => decide ((pc : Int) + o = (x.1 : Int))
  | .ifCond _ o => decide ((pc : Int) + o = (x.1 : Int))
  | .if_icmp _ o => decide ((pc : Int) + o = (x.1 : Int))
  | .ifnonnull o => decide ((pc : Int) + o = (x.1 : Int))
  | .aconst_null => Nat.blt x.1 111
  | .tableswitch _ lo hi os => decide (lo + (os.size : Int) = hi + 1)
  | .lookupswitch _ ps => (ps.toList.zip (ps.toList.drop 1)).all (fun (a, next) => a.1 < next.1)
  | .getfield j => am_okf (am_own y) j x && (bif Nat.beq x.1 16 then Nat.blt x.2.1 2 else am_oki x && (bif Nat.beq x.2.2.2 1 then am_at false (am_isf x.1) x.2.1 else true))
  | .putfield j => am_okf (am_own y) j x && am_oki x && (bif Nat.beq x.2.2.2 1 then true else !am_at false (am_isf x.1) x.2.1) && (bif (am_T x.1 x.2.1).2.2.2 then am_ini y && Nat.beq (am_own y) x.1 else true) && (bif Nat.beq x.2.2.2 2 then Nat.beq (am_tyk x.1 x.2.1) 2 else !Nat.beq (am_tyk x.1 x.2.1) 2)
  | .ldc j => (am_klk (am_own y)).any (fun f => Nat.beq f.1 j && Nat.beq f.2.1 x.1 && Nat.beq f.2.2.1 x.2.1 && Nat.beq f.2.2.2.1 x.2.2.1) && (bif Nat.beq x.1 16 then Nat.blt 1999 x.2.1 && Nat.blt x.2.1 2008 && Nat.beq x.2.2.1 0 else Nat.beq x.1 0 && Nat.blt x.2.1 2147483648)
  | .ldc_w j => (am_klk (am_own y)).any (fun f => Nat.beq f.1 j && Nat.beq f.2.1 x.1 && Nat.beq f.2.2.1 x.2.1 && Nat.beq f.2.2.2.1 x.2.2.1) && (bif Nat.beq x.1 16 then Nat.blt 1999 x.2.1 && Nat.blt x.2.1 2008 && Nat.beq x.2.2.1 0 else Nat.beq x.1 0 && Nat.blt x.2.1 2147483648)
  | .ldc2_w j => (am_klk (am_own y)).any (fun f => Nat.beq f.1 j && Nat.beq f.2.1 x.1 && Nat.beq f.2.2.1 x.2.1 && Nat.beq f.2.2.2.1 x.2.2.1) && Nat.beq x.1 1 && Nat.blt x.2.1 9223372036854775808
  | .getstatic j => (am_glk (am_own y)).any (fun f => Nat.beq f.1 j && (bif Nat.blt f.2.1 7 then Nat.beq x.1 21 && Nat.beq x.2.1 (1000 + f.2.1) else bif Nat.beq f.2.1 7 then Nat.beq x.1 0 && Nat.beq x.2.1 1 else Nat.beq f.2.1 8 && Nat.beq x.1 17 && Nat.beq x.2.1 0)) && Nat.beq x.2.2.1 0
  | .new j => (am_nlk (am_own y)).any (fun f => Nat.beq f.1 j && Nat.beq f.2.1 x.1) && Nat.blt x.1 11
  | .newarray t => match t with
    | .int => Nat.beq x.1 11
    | .long => Nat.beq x.1 12
    | .byte => Nat.beq x.1 13
    | .boolean => Nat.beq x.1 14
    | _ => false
  | .anewarray j => (am_nlk (am_own y)).any (fun f => Nat.beq f.1 j && Nat.beq f.2.1 6)
  | .invokevirtual j => !Nat.beq x.2.1 99 && (Nat.beq x.2.1 99 || (am_okc (am_own y) j x.1 0 && Nat.blt x.1 278 && Nat.beq (am_npar x.1 + 1) x.2.1 && Nat.beq (am_rkt (am_rk x.1)) x.2.2.2 && ((Nat.blt (am_own x.1) 11 && Nat.beq x.2.2.1 (100 + am_own x.1)) || (Nat.beq x.2.2.1 16 && Nat.beq (am_own x.1) 14))))
  | .invokestatic j => !Nat.beq x.2.1 99 && (Nat.beq x.2.1 99 || (bif Nat.beq x.2.2.1 6 then am_okc (am_own y) j 0 6 else bif Nat.beq x.2.2.1 7 then am_okc (am_own y) j x.1 7 && Nat.blt x.1 4 else (am_okc (am_own y) j x.1 1 || am_okc (am_own y) j x.1 3) && Nat.blt x.1 278 && Nat.beq (am_npar x.1) x.2.1 && Nat.beq (am_rkt (am_rk x.1)) x.2.2.2))
  | .invokespecial j => !Nat.beq x.2.1 99 && (Nat.beq x.2.1 99 || (bif Nat.beq x.2.2.1 5 then am_okc (am_own y) j 0 5 else (am_okc (am_own y) j x.1 2 || am_okc (am_own y) j x.1 4) && Nat.blt x.1 278 && Nat.beq (am_npar x.1 + 1) x.2.1 && Nat.beq (am_rk x.1) 9 && Nat.blt (am_own x.1) 11 && Nat.beq x.2.2.2 (100 + am_own x.1) && am_ini x.1))
  | _ => true
def am_eok (y pc : Nat) (e : am_E) : Bool := (match decode (am_by y) pc with
  | .ok (i, l) => decide (i = e.1) && Nat.beq e.2.1 (pc + l) && (am_isw i || Nat.beq l (am_il i))
  | .error _ => false) && am_xok y pc e.1 e.2.2.1
def am_ek (y pc : Nat) : Bool := match am_code y pc with
  | none => true
  | some e => am_eok y pc e
theorem am_ek_none {y pc : Nat} (h : am_code y pc = none) : am_ek y pc = true := by
  unfold am_ek
  rw [h]
theorem am_ek_u {y m a pc : Nat} (h : ((List.range m).map (fun i => am_ek y (i + a))).all id = true) (h1 : a ≤ pc) (h2 : pc < a + m) : am_ek y pc = true := by
  have := List.all_eq_true.mp h (am_ek y pc) (List.mem_map.mpr ⟨pc - a, List.mem_range.mpr (by omega), by rw [Nat.sub_add_cancel h1]⟩)
  exact this
theorem am_blt_f {α : Type} {a b : Nat} (h : b ≤ a) (x y : α) : (bif Nat.blt a b then x else y) = y := by
  have : Nat.blt a b = false := by
    cases q : Nat.blt a b with
    | false => rfl
    | true => exact absurd (Nat.le_of_ble_eq_true q) (by omega)
  rw [this]
  rfl
set_option maxRecDepth 100000 in
theorem am_k0_0 : ((List.range 21).map (fun i => am_ek 0 (i + 0))).all id = true := by decide +kernel
theorem am_ky0 (pc : Nat) : am_ek 0 pc = true := by
  rcases Nat.lt_or_ge pc 21 with q | q
  · exact am_ek_u am_k0_0 (by omega) (by omega)
  refine am_ek_none ?_
  show (bif Nat.blt pc 21 then am_cr0 pc else none) = none
  exact am_blt_f q _ _
set_option maxRecDepth 100000 in
theorem am_k1_0 : ((List.range 48).map (fun i => am_ek 1 (i + 0))).all id = true := by decide +kernel
set_option maxRecDepth 100000 in
theorem am_k1_1 : ((List.range 48).map (fun i => am_ek 1 (i + 48))).all id = true := by decide +kernel
set_option maxRecDepth 100000 in
theorem am_k1_2 : ((List.range 46).map (fun i => am_ek 1 (i + 96))).all id = true := by decide +kernel
theorem am_ky1 (pc : Nat) : am_ek 1 pc = true := by
  rcases Nat.lt_or_ge pc 48 with q | q
  · exact am_ek_u am_k1_0 (by omega) (by omega)
  rcases Nat.lt_or_ge pc 96 with q | q
  · exact am_ek_u am_k1_1 (by omega) (by omega)
  rcases Nat.lt_or_ge pc 142 with q | q
  · exact am_ek_u am_k1_2 (by omega) (by omega)
  refine am_ek_none ?_
  show (bif Nat.blt pc 142 then am_cr1 pc else none) = none
  exact am_blt_f q _ _
set_option maxRecDepth 100000 in
theorem am_k2_0 : ((List.range 25).map (fun i => am_ek 2 (i + 0))).all id = true := by decide +kernel
theorem am_ky2 (pc : Nat) : am_ek 2 pc = true := by
  rcases Nat.lt_or_ge pc 25 with q | q
  · exact am_ek_u am_k2_0 (by omega) (by omega)
  refine am_ek_none ?_
  show (bif Nat.blt pc 25 then am_cr2 pc else none) = none
  exact am_blt_f q _ _
set_option maxRecDepth 100000 in
theorem am_k3_0 : ((List.range 39).map (fun i => am_ek 3 (i + 0))).all id = true := by decide +kernel
theorem am_ky3 (pc : Nat) : am_ek 3 pc = true := by
  rcases Nat.lt_or_ge pc 39 with q | q
  · exact am_ek_u am_k3_0 (by omega) (by omega)
  refine am_ek_none ?_
  show (bif Nat.blt pc 39 then am_cr3 pc else none) = none
  exact am_blt_f q _ _
set_option maxRecDepth 100000 in
theorem am_k4_0 : ((List.range 26).map (fun i => am_ek 4 (i + 0))).all id = true := by decide +kernel
theorem am_ky4 (pc : Nat) : am_ek 4 pc = true := by
  rcases Nat.lt_or_ge pc 26 with q | q
  · exact am_ek_u am_k4_0 (by omega) (by omega)
  refine am_ek_none ?_
  show (bif Nat.blt pc 26 then am_cr4 pc else none) = none
  exact am_blt_f q _ _
set_option maxRecDepth 100000 in
theorem am_k5_0 : ((List.range 48).map (fun i => am_ek 5 (i + 0))).all id = true := by decide +kernel
set_option maxRecDepth 100000 in
theorem am_k5_1 : ((List.range 3).map (fun i => am_ek 5 (i + 48))).all id = true := by decide +kernel
theorem am_ky5 (pc : Nat) : am_ek 5 pc = true := by
  rcases Nat.lt_or_ge pc 48 with q | q
  · exact am_ek_u am_k5_0 (by omega) (by omega)
  rcases Nat.lt_or_ge pc 51 with q | q
  · exact am_ek_u am_k5_1 (by omega) (by omega)
  refine am_ek_none ?_
  show (bif Nat.blt pc 51 then am_cr5 pc else none) = none
  exact am_blt_f q _ _
set_option maxRecDepth 100000 in
theorem am_k6_0 : ((List.range 48).map (fun i => am_ek 6 (i + 0))).all id = true := by decide +kernel
set_option maxRecDepth 100000 in
theorem am_k6_1 : ((List.range 12).map (fun i => am_ek 6 (i + 48))).all id = true := by decide +kernel
theorem am_ky6 (pc : Nat) : am_ek 6 pc = true := by
  rcases Nat.lt_or_ge pc 48 with q | q
  · exact am_ek_u am_k6_0 (by omega) (by omega)
  rcases Nat.lt_or_ge pc 60 with q | q
  · exact am_ek_u am_k6_1 (by omega) (by omega)
  refine am_ek_none ?_
  show (bif Nat.blt pc 60 then am_cr6 pc else none) = none
  exact am_blt_f q _ _
set_option maxRecDepth 100000 in
theorem am_k7_0 : ((List.range 48).map (fun i => am_ek 7 (i + 0))).all id = true := by decide +kernel
set_option maxRecDepth 100000 in
theorem am_k7_1 : ((List.range 48).map (fun i => am_ek 7 (i + 48))).all id = true := by decide +kernel
set_option maxRecDepth 100000 in
theorem am_k7_2 : ((List.range 14).map (fun i => am_ek 7 (i + 96))).all id = true := by decide +kernel
theorem am_ky7 (pc : Nat) : am_ek 7 pc = true := by
  rcases Nat.lt_or_ge pc 48 with q | q
  · exact am_ek_u am_k7_0 (by omega) (by omega)
  rcases Nat.lt_or_ge pc 96 with q | q
  · exact am_ek_u am_k7_1 (by omega) (by omega)
  rcases Nat.lt_or_ge pc 110 with q | q
  · exact am_ek_u am_k7_2 (by omega) (by omega)
  refine am_ek_none ?_
  show (bif Nat.blt pc 110 then am_cr7 pc else none) = none
  exact am_blt_f q _ _
set_option maxRecDepth 100000 in
theorem am_k8_0 : ((List.range 35).map (fun i => am_ek 8 (i + 0))).all id = true := by decide +kernel
theorem am_ky8 (pc : Nat) : am_ek 8 pc = true := by
  rcases Nat.lt_or_ge pc 35 with q | q
  · exact am_ek_u am_k8_0 (by omega) (by omega)
  refine am_ek_none ?_
  show (bif Nat.blt pc 35 then am_cr8 pc else none) = none
  exact am_blt_f q _ _
set_option maxRecDepth 100000 in
theorem am_k9_0 : ((List.range 29).map (fun i => am_ek 9 (i + 0))).all id = true := by decide +kernel
theorem am_ky9 (pc : Nat) : am_ek 9 pc = true := by
  rcases Nat.lt_or_ge pc 29 with q | q
  · exact am_ek_u am_k9_0 (by omega) (by omega)
  refine am_ek_none ?_
  show (bif Nat.blt pc 29 then am_cr9 pc else none) = none
  exact am_blt_f q _ _
set_option maxRecDepth 100000 in
theorem am_k10_0 : ((List.range 48).map (fun i => am_ek 10 (i + 0))).all id = true := by decide +kernel
set_option maxRecDepth 100000 in
theorem am_k10_1 : ((List.range 48).map (fun i => am_ek 10 (i + 48))).all id = true := by decide +kernel
set_option maxRecDepth 100000 in
theorem am_k10_2 : ((List.range 48).map (fun i => am_ek 10 (i + 96))).all id = true := by decide +kernel
set_option maxRecDepth 100000 in
theorem am_k10_3 : ((List.range 34).map (fun i => am_ek 10 (i + 144))).all id = true := by decide +kernel
theorem am_ky10 (pc : Nat) : am_ek 10 pc = true := by
  rcases Nat.lt_or_ge pc 48 with q | q
  · exact am_ek_u am_k10_0 (by omega) (by omega)
  rcases Nat.lt_or_ge pc 96 with q | q
  · exact am_ek_u am_k10_1 (by omega) (by omega)
  rcases Nat.lt_or_ge pc 144 with q | q
  · exact am_ek_u am_k10_2 (by omega) (by omega)
  rcases Nat.lt_or_ge pc 178 with q | q
  · exact am_ek_u am_k10_3 (by omega) (by omega)
  refine am_ek_none ?_
  show (bif Nat.blt pc 178 then am_cr10 pc else none) = none
  exact am_blt_f q _ _
set_option maxRecDepth 100000 in
theorem am_k11_0 : ((List.range 48).map (fun i => am_ek 11 (i + 0))).all id = true := by decide +kernel
set_option maxRecDepth 100000 in
theorem am_k11_1 : ((List.range 48).map (fun i => am_ek 11 (i + 48))).all id = true := by decide +kernel
set_option maxRecDepth 100000 in
theorem am_k11_2 : ((List.range 48).map (fun i => am_ek 11 (i + 96))).all id = true := by decide +kernel
set_option maxRecDepth 100000 in
theorem am_k11_3 : ((List.range 48).map (fun i => am_ek 11 (i + 144))).all id = true := by decide +kernel
set_option maxRecDepth 100000 in
theorem am_k11_4 : ((List.range 48).map (fun i => am_ek 11 (i + 192))).all id = true := by decide +kernel
set_option maxRecDepth 100000 in
theorem am_k11_5 : ((List.range 48).map (fun i => am_ek 11 (i + 240))).all id = true := by decide +kernel
set_option maxRecDepth 100000 in
theorem am_k11_6 : ((List.range 48).map (fun i => am_ek 11 (i + 288))).all id = true := by decide +kernel
set_option maxRecDepth 100000 in
theorem am_k11_7 : ((List.range 48).map (fun i => am_ek 11 (i + 336))).all id = true := by decide +kernel
set_option maxRecDepth 100000 in
theorem am_k11_8 : ((List.range 48).map (fun i => am_ek 11 (i + 384))).all id = true := by decide +kernel
set_option maxRecDepth 100000 in
theorem am_k11_9 : ((List.range 48).map (fun i => am_ek 11 (i + 432))).all id = true := by decide +kernel
set_option maxRecDepth 100000 in
theorem am_k11_10 : ((List.range 48).map (fun i => am_ek 11 (i + 480))).all id = true := by decide +kernel
theorem am_ky11 (pc : Nat) : am_ek 11 pc = true := by
  rcases Nat.lt_or_ge pc 48 with q | q
  · exact am_ek_u am_k11_0 (by omega) (by omega)
  rcases Nat.lt_or_ge pc 96 with q | q
  · exact am_ek_u am_k11_1 (by omega) (by omega)
  rcases Nat.lt_or_ge pc 144 with q | q
  · exact am_ek_u am_k11_2 (by omega) (by omega)
  rcases Nat.lt_or_ge pc 192 with q | q
  · exact am_ek_u am_k11_3 (by omega) (by omega)
  rcases Nat.lt_or_ge pc 240 with q | q
  · exact am_ek_u am_k11_4 (by omega) (by omega)
  rcases Nat.lt_or_ge pc 288 with q | q
  · exact am_ek_u am_k11_5 (by omega) (by omega)
  rcases Nat.lt_or_ge pc 336 with q | q
  · exact am_ek_u am_k11_6 (by omega) (by omega)
  rcases Nat.lt_or_ge pc 384 with q | q
  · exact am_ek_u am_k11_7 (by omega) (by omega)
  rcases Nat.lt_or_ge pc 432 with q | q
  · exact am_ek_u am_k11_8 (by omega) (by omega)
  rcases Nat.lt_or_ge pc 480 with q | q
  · exact am_ek_u am_k11_9 (by omega) (by omega)
  rcases Nat.lt_or_ge pc 528 with q | q
  · exact am_ek_u am_k11_10 (by omega) (by omega)
  refine am_ek_none ?_
  show (bif Nat.blt pc 528 then am_cr11 pc else none) = none
  exact am_blt_f q _ _
set_option maxRecDepth 100000 in
theorem am_k12_0 : ((List.range 16).map (fun i => am_ek 12 (i + 0))).all id = true := by decide +kernel
theorem am_ky12 (pc : Nat) : am_ek 12 pc = true := by
  rcases Nat.lt_or_ge pc 16 with q | q
  · exact am_ek_u am_k12_0 (by omega) (by omega)
  refine am_ek_none ?_
  show (bif Nat.blt pc 16 then am_cr12 pc else none) = none
  exact am_blt_f q _ _
set_option maxRecDepth 100000 in
theorem am_k13_0 : ((List.range 24).map (fun i => am_ek 13 (i + 0))).all id = true := by decide +kernel
theorem am_ky13 (pc : Nat) : am_ek 13 pc = true := by
  rcases Nat.lt_or_ge pc 24 with q | q
  · exact am_ek_u am_k13_0 (by omega) (by omega)
  refine am_ek_none ?_
  show (bif Nat.blt pc 24 then am_cr13 pc else none) = none
  exact am_blt_f q _ _
set_option maxRecDepth 100000 in
theorem am_k14_0 : ((List.range 23).map (fun i => am_ek 14 (i + 0))).all id = true := by decide +kernel
theorem am_ky14 (pc : Nat) : am_ek 14 pc = true := by
  rcases Nat.lt_or_ge pc 23 with q | q
  · exact am_ek_u am_k14_0 (by omega) (by omega)
  refine am_ek_none ?_
  show (bif Nat.blt pc 23 then am_cr14 pc else none) = none
  exact am_blt_f q _ _
set_option maxRecDepth 100000 in
theorem am_k15_0 : ((List.range 24).map (fun i => am_ek 15 (i + 0))).all id = true := by decide +kernel
theorem am_ky15 (pc : Nat) : am_ek 15 pc = true := by
  rcases Nat.lt_or_ge pc 24 with q | q
  · exact am_ek_u am_k15_0 (by omega) (by omega)
  refine am_ek_none ?_
  show (bif Nat.blt pc 24 then am_cr15 pc else none) = none
  exact am_blt_f q _ _
set_option maxRecDepth 100000 in
theorem am_k16_0 : ((List.range 48).map (fun i => am_ek 16 (i + 0))).all id = true := by decide +kernel
set_option maxRecDepth 100000 in
theorem am_k16_1 : ((List.range 18).map (fun i => am_ek 16 (i + 48))).all id = true := by decide +kernel
theorem am_ky16 (pc : Nat) : am_ek 16 pc = true := by
  rcases Nat.lt_or_ge pc 48 with q | q
  · exact am_ek_u am_k16_0 (by omega) (by omega)
  rcases Nat.lt_or_ge pc 66 with q | q
  · exact am_ek_u am_k16_1 (by omega) (by omega)
  refine am_ek_none ?_
  show (bif Nat.blt pc 66 then am_cr16 pc else none) = none
  exact am_blt_f q _ _
set_option maxRecDepth 100000 in
theorem am_k17_0 : ((List.range 16).map (fun i => am_ek 17 (i + 0))).all id = true := by decide +kernel
theorem am_ky17 (pc : Nat) : am_ek 17 pc = true := by
  rcases Nat.lt_or_ge pc 16 with q | q
  · exact am_ek_u am_k17_0 (by omega) (by omega)
  refine am_ek_none ?_
  show (bif Nat.blt pc 16 then am_cr17 pc else none) = none
  exact am_blt_f q _ _
set_option maxRecDepth 100000 in
theorem am_k18_0 : ((List.range 13).map (fun i => am_ek 18 (i + 0))).all id = true := by decide +kernel
theorem am_ky18 (pc : Nat) : am_ek 18 pc = true := by
  rcases Nat.lt_or_ge pc 13 with q | q
  · exact am_ek_u am_k18_0 (by omega) (by omega)
  refine am_ek_none ?_
  show (bif Nat.blt pc 13 then am_cr18 pc else none) = none
  exact am_blt_f q _ _
set_option maxRecDepth 100000 in
theorem am_k19_0 : ((List.range 48).map (fun i => am_ek 19 (i + 0))).all id = true := by decide +kernel
set_option maxRecDepth 100000 in
theorem am_k19_1 : ((List.range 48).map (fun i => am_ek 19 (i + 48))).all id = true := by decide +kernel
set_option maxRecDepth 100000 in
theorem am_k19_2 : ((List.range 13).map (fun i => am_ek 19 (i + 96))).all id = true := by decide +kernel
theorem am_ky19 (pc : Nat) : am_ek 19 pc = true := by
  rcases Nat.lt_or_ge pc 48 with q | q
  · exact am_ek_u am_k19_0 (by omega) (by omega)
  rcases Nat.lt_or_ge pc 96 with q | q
  · exact am_ek_u am_k19_1 (by omega) (by omega)
  rcases Nat.lt_or_ge pc 109 with q | q
  · exact am_ek_u am_k19_2 (by omega) (by omega)
  refine am_ek_none ?_
  show (bif Nat.blt pc 109 then am_cr19 pc else none) = none
  exact am_blt_f q _ _
set_option maxRecDepth 100000 in
theorem am_k20_0 : ((List.range 14).map (fun i => am_ek 20 (i + 0))).all id = true := by decide +kernel
theorem am_ky20 (pc : Nat) : am_ek 20 pc = true := by
  rcases Nat.lt_or_ge pc 14 with q | q
  · exact am_ek_u am_k20_0 (by omega) (by omega)
  refine am_ek_none ?_
  show (bif Nat.blt pc 14 then am_cr20 pc else none) = none
  exact am_blt_f q _ _
set_option maxRecDepth 100000 in
theorem am_k21_0 : ((List.range 14).map (fun i => am_ek 21 (i + 0))).all id = true := by decide +kernel
theorem am_ky21 (pc : Nat) : am_ek 21 pc = true := by
  rcases Nat.lt_or_ge pc 14 with q | q
  · exact am_ek_u am_k21_0 (by omega) (by omega)
  refine am_ek_none ?_
  show (bif Nat.blt pc 14 then am_cr21 pc else none) = none
  exact am_blt_f q _ _
set_option maxRecDepth 100000 in
theorem am_k22_0 : ((List.range 41).map (fun i => am_ek 22 (i + 0))).all id = true := by decide +kernel
theorem am_ky22 (pc : Nat) : am_ek 22 pc = true := by
  rcases Nat.lt_or_ge pc 41 with q | q
  · exact am_ek_u am_k22_0 (by omega) (by omega)
  refine am_ek_none ?_
  show (bif Nat.blt pc 41 then am_cr22 pc else none) = none
  exact am_blt_f q _ _
set_option maxRecDepth 100000 in
theorem am_k23_0 : ((List.range 28).map (fun i => am_ek 23 (i + 0))).all id = true := by decide +kernel
theorem am_ky23 (pc : Nat) : am_ek 23 pc = true := by
  rcases Nat.lt_or_ge pc 28 with q | q
  · exact am_ek_u am_k23_0 (by omega) (by omega)
  refine am_ek_none ?_
  show (bif Nat.blt pc 28 then am_cr23 pc else none) = none
  exact am_blt_f q _ _
set_option maxRecDepth 100000 in
theorem am_k24_0 : ((List.range 48).map (fun i => am_ek 24 (i + 0))).all id = true := by decide +kernel
set_option maxRecDepth 100000 in
theorem am_k24_1 : ((List.range 38).map (fun i => am_ek 24 (i + 48))).all id = true := by decide +kernel
theorem am_ky24 (pc : Nat) : am_ek 24 pc = true := by
  rcases Nat.lt_or_ge pc 48 with q | q
  · exact am_ek_u am_k24_0 (by omega) (by omega)
  rcases Nat.lt_or_ge pc 86 with q | q
  · exact am_ek_u am_k24_1 (by omega) (by omega)
  refine am_ek_none ?_
  show (bif Nat.blt pc 86 then am_cr24 pc else none) = none
  exact am_blt_f q _ _
set_option maxRecDepth 100000 in
theorem am_k25_0 : ((List.range 48).map (fun i => am_ek 25 (i + 0))).all id = true := by decide +kernel
set_option maxRecDepth 100000 in
theorem am_k25_1 : ((List.range 4).map (fun i => am_ek 25 (i + 48))).all id = true := by decide +kernel
theorem am_ky25 (pc : Nat) : am_ek 25 pc = true := by
  rcases Nat.lt_or_ge pc 48 with q | q
  · exact am_ek_u am_k25_0 (by omega) (by omega)
  rcases Nat.lt_or_ge pc 52 with q | q
  · exact am_ek_u am_k25_1 (by omega) (by omega)
  refine am_ek_none ?_
  show (bif Nat.blt pc 52 then am_cr25 pc else none) = none
  exact am_blt_f q _ _
set_option maxRecDepth 100000 in
theorem am_k26_0 : ((List.range 48).map (fun i => am_ek 26 (i + 0))).all id = true := by decide +kernel
set_option maxRecDepth 100000 in
theorem am_k26_1 : ((List.range 15).map (fun i => am_ek 26 (i + 48))).all id = true := by decide +kernel
theorem am_ky26 (pc : Nat) : am_ek 26 pc = true := by
  rcases Nat.lt_or_ge pc 48 with q | q
  · exact am_ek_u am_k26_0 (by omega) (by omega)
  rcases Nat.lt_or_ge pc 63 with q | q
  · exact am_ek_u am_k26_1 (by omega) (by omega)
  refine am_ek_none ?_
  show (bif Nat.blt pc 63 then am_cr26 pc else none) = none
  exact am_blt_f q _ _
set_option maxRecDepth 100000 in
theorem am_k27_0 : ((List.range 48).map (fun i => am_ek 27 (i + 0))).all id = true := by decide +kernel
set_option maxRecDepth 100000 in
theorem am_k27_1 : ((List.range 29).map (fun i => am_ek 27 (i + 48))).all id = true := by decide +kernel
theorem am_ky27 (pc : Nat) : am_ek 27 pc = true := by
  rcases Nat.lt_or_ge pc 48 with q | q
  · exact am_ek_u am_k27_0 (by omega) (by omega)
  rcases Nat.lt_or_ge pc 77 with q | q
  · exact am_ek_u am_k27_1 (by omega) (by omega)
  refine am_ek_none ?_
  show (bif Nat.blt pc 77 then am_cr27 pc else none) = none
  exact am_blt_f q _ _
set_option maxRecDepth 100000 in
theorem am_k28_0 : ((List.range 48).map (fun i => am_ek 28 (i + 0))).all id = true := by decide +kernel
set_option maxRecDepth 100000 in
theorem am_k28_1 : ((List.range 48).map (fun i => am_ek 28 (i + 48))).all id = true := by decide +kernel
set_option maxRecDepth 100000 in
theorem am_k28_2 : ((List.range 48).map (fun i => am_ek 28 (i + 96))).all id = true := by decide +kernel
set_option maxRecDepth 100000 in
theorem am_k28_3 : ((List.range 37).map (fun i => am_ek 28 (i + 144))).all id = true := by decide +kernel
theorem am_ky28 (pc : Nat) : am_ek 28 pc = true := by
  rcases Nat.lt_or_ge pc 48 with q | q
  · exact am_ek_u am_k28_0 (by omega) (by omega)
  rcases Nat.lt_or_ge pc 96 with q | q
  · exact am_ek_u am_k28_1 (by omega) (by omega)
  rcases Nat.lt_or_ge pc 144 with q | q
  · exact am_ek_u am_k28_2 (by omega) (by omega)
  rcases Nat.lt_or_ge pc 181 with q | q
  · exact am_ek_u am_k28_3 (by omega) (by omega)
  refine am_ek_none ?_
  show (bif Nat.blt pc 181 then am_cr28 pc else none) = none
  exact am_blt_f q _ _
set_option maxRecDepth 100000 in
theorem am_k29_0 : ((List.range 48).map (fun i => am_ek 29 (i + 0))).all id = true := by decide +kernel
set_option maxRecDepth 100000 in
theorem am_k29_1 : ((List.range 48).map (fun i => am_ek 29 (i + 48))).all id = true := by decide +kernel
set_option maxRecDepth 100000 in
theorem am_k29_2 : ((List.range 48).map (fun i => am_ek 29 (i + 96))).all id = true := by decide +kernel
set_option maxRecDepth 100000 in
theorem am_k29_3 : ((List.range 48).map (fun i => am_ek 29 (i + 144))).all id = true := by decide +kernel
set_option maxRecDepth 100000 in
theorem am_k29_4 : ((List.range 48).map (fun i => am_ek 29 (i + 192))).all id = true := by decide +kernel
set_option maxRecDepth 100000 in
theorem am_k29_5 : ((List.range 3).map (fun i => am_ek 29 (i + 240))).all id = true := by decide +kernel
theorem am_ky29 (pc : Nat) : am_ek 29 pc = true := by
  rcases Nat.lt_or_ge pc 48 with q | q
  · exact am_ek_u am_k29_0 (by omega) (by omega)
  rcases Nat.lt_or_ge pc 96 with q | q
  · exact am_ek_u am_k29_1 (by omega) (by omega)
  rcases Nat.lt_or_ge pc 144 with q | q
  · exact am_ek_u am_k29_2 (by omega) (by omega)
  rcases Nat.lt_or_ge pc 192 with q | q
  · exact am_ek_u am_k29_3 (by omega) (by omega)
  rcases Nat.lt_or_ge pc 240 with q | q
  · exact am_ek_u am_k29_4 (by omega) (by omega)
  rcases Nat.lt_or_ge pc 243 with q | q
  · exact am_ek_u am_k29_5 (by omega) (by omega)
  refine am_ek_none ?_
  show (bif Nat.blt pc 243 then am_cr29 pc else none) = none
  exact am_blt_f q _ _
set_option maxRecDepth 100000 in
theorem am_k30_0 : ((List.range 47).map (fun i => am_ek 30 (i + 0))).all id = true := by decide +kernel
theorem am_ky30 (pc : Nat) : am_ek 30 pc = true := by
  rcases Nat.lt_or_ge pc 47 with q | q
  · exact am_ek_u am_k30_0 (by omega) (by omega)
  refine am_ek_none ?_
  show (bif Nat.blt pc 47 then am_cr30 pc else none) = none
  exact am_blt_f q _ _
set_option maxRecDepth 100000 in
theorem am_k31_0 : ((List.range 48).map (fun i => am_ek 31 (i + 0))).all id = true := by decide +kernel
set_option maxRecDepth 100000 in
theorem am_k31_1 : ((List.range 1).map (fun i => am_ek 31 (i + 48))).all id = true := by decide +kernel
theorem am_ky31 (pc : Nat) : am_ek 31 pc = true := by
  rcases Nat.lt_or_ge pc 48 with q | q
  · exact am_ek_u am_k31_0 (by omega) (by omega)
  rcases Nat.lt_or_ge pc 49 with q | q
  · exact am_ek_u am_k31_1 (by omega) (by omega)
  refine am_ek_none ?_
  show (bif Nat.blt pc 49 then am_cr31 pc else none) = none
  exact am_blt_f q _ _
set_option maxRecDepth 100000 in
theorem am_k32_0 : ((List.range 18).map (fun i => am_ek 32 (i + 0))).all id = true := by decide +kernel
theorem am_ky32 (pc : Nat) : am_ek 32 pc = true := by
  rcases Nat.lt_or_ge pc 18 with q | q
  · exact am_ek_u am_k32_0 (by omega) (by omega)
  refine am_ek_none ?_
  show (bif Nat.blt pc 18 then am_cr32 pc else none) = none
  exact am_blt_f q _ _
set_option maxRecDepth 100000 in
theorem am_k33_0 : ((List.range 16).map (fun i => am_ek 33 (i + 0))).all id = true := by decide +kernel
theorem am_ky33 (pc : Nat) : am_ek 33 pc = true := by
  rcases Nat.lt_or_ge pc 16 with q | q
  · exact am_ek_u am_k33_0 (by omega) (by omega)
  refine am_ek_none ?_
  show (bif Nat.blt pc 16 then am_cr33 pc else none) = none
  exact am_blt_f q _ _
set_option maxRecDepth 100000 in
theorem am_k34_0 : ((List.range 48).map (fun i => am_ek 34 (i + 0))).all id = true := by decide +kernel
set_option maxRecDepth 100000 in
theorem am_k34_1 : ((List.range 2).map (fun i => am_ek 34 (i + 48))).all id = true := by decide +kernel
theorem am_ky34 (pc : Nat) : am_ek 34 pc = true := by
  rcases Nat.lt_or_ge pc 48 with q | q
  · exact am_ek_u am_k34_0 (by omega) (by omega)
  rcases Nat.lt_or_ge pc 50 with q | q
  · exact am_ek_u am_k34_1 (by omega) (by omega)
  refine am_ek_none ?_
  show (bif Nat.blt pc 50 then am_cr34 pc else none) = none
  exact am_blt_f q _ _
set_option maxRecDepth 100000 in
theorem am_k35_0 : ((List.range 18).map (fun i => am_ek 35 (i + 0))).all id = true := by decide +kernel
theorem am_ky35 (pc : Nat) : am_ek 35 pc = true := by
  rcases Nat.lt_or_ge pc 18 with q | q
  · exact am_ek_u am_k35_0 (by omega) (by omega)
  refine am_ek_none ?_
  show (bif Nat.blt pc 18 then am_cr35 pc else none) = none
  exact am_blt_f q _ _
set_option maxRecDepth 100000 in
theorem am_k36_0 : ((List.range 48).map (fun i => am_ek 36 (i + 0))).all id = true := by decide +kernel
set_option maxRecDepth 100000 in
theorem am_k36_1 : ((List.range 13).map (fun i => am_ek 36 (i + 48))).all id = true := by decide +kernel
theorem am_ky36 (pc : Nat) : am_ek 36 pc = true := by
  rcases Nat.lt_or_ge pc 48 with q | q
  · exact am_ek_u am_k36_0 (by omega) (by omega)
  rcases Nat.lt_or_ge pc 61 with q | q
  · exact am_ek_u am_k36_1 (by omega) (by omega)
  refine am_ek_none ?_
  show (bif Nat.blt pc 61 then am_cr36 pc else none) = none
  exact am_blt_f q _ _
set_option maxRecDepth 100000 in
theorem am_k37_0 : ((List.range 38).map (fun i => am_ek 37 (i + 0))).all id = true := by decide +kernel
theorem am_ky37 (pc : Nat) : am_ek 37 pc = true := by
  rcases Nat.lt_or_ge pc 38 with q | q
  · exact am_ek_u am_k37_0 (by omega) (by omega)
  refine am_ek_none ?_
  show (bif Nat.blt pc 38 then am_cr37 pc else none) = none
  exact am_blt_f q _ _
set_option maxRecDepth 100000 in
theorem am_k38_0 : ((List.range 48).map (fun i => am_ek 38 (i + 0))).all id = true := by decide +kernel
set_option maxRecDepth 100000 in
theorem am_k38_1 : ((List.range 2).map (fun i => am_ek 38 (i + 48))).all id = true := by decide +kernel
theorem am_ky38 (pc : Nat) : am_ek 38 pc = true := by
  rcases Nat.lt_or_ge pc 48 with q | q
  · exact am_ek_u am_k38_0 (by omega) (by omega)
  rcases Nat.lt_or_ge pc 50 with q | q
  · exact am_ek_u am_k38_1 (by omega) (by omega)
  refine am_ek_none ?_
  show (bif Nat.blt pc 50 then am_cr38 pc else none) = none
  exact am_blt_f q _ _
set_option maxRecDepth 100000 in
theorem am_k39_0 : ((List.range 48).map (fun i => am_ek 39 (i + 0))).all id = true := by decide +kernel
theorem am_ky39 (pc : Nat) : am_ek 39 pc = true := by
  rcases Nat.lt_or_ge pc 48 with q | q
  · exact am_ek_u am_k39_0 (by omega) (by omega)
  refine am_ek_none ?_
  show (bif Nat.blt pc 48 then am_cr39 pc else none) = none
  exact am_blt_f q _ _
set_option maxRecDepth 100000 in
theorem am_k40_0 : ((List.range 16).map (fun i => am_ek 40 (i + 0))).all id = true := by decide +kernel
theorem am_ky40 (pc : Nat) : am_ek 40 pc = true := by
  rcases Nat.lt_or_ge pc 16 with q | q
  · exact am_ek_u am_k40_0 (by omega) (by omega)
  refine am_ek_none ?_
  show (bif Nat.blt pc 16 then am_cr40 pc else none) = none
  exact am_blt_f q _ _
set_option maxRecDepth 100000 in
theorem am_k41_0 : ((List.range 48).map (fun i => am_ek 41 (i + 0))).all id = true := by decide +kernel
set_option maxRecDepth 100000 in
theorem am_k41_1 : ((List.range 48).map (fun i => am_ek 41 (i + 48))).all id = true := by decide +kernel
set_option maxRecDepth 100000 in
theorem am_k41_2 : ((List.range 9).map (fun i => am_ek 41 (i + 96))).all id = true := by decide +kernel
theorem am_ky41 (pc : Nat) : am_ek 41 pc = true := by
  rcases Nat.lt_or_ge pc 48 with q | q
  · exact am_ek_u am_k41_0 (by omega) (by omega)
  rcases Nat.lt_or_ge pc 96 with q | q
  · exact am_ek_u am_k41_1 (by omega) (by omega)
  rcases Nat.lt_or_ge pc 105 with q | q
  · exact am_ek_u am_k41_2 (by omega) (by omega)
  refine am_ek_none ?_
  show (bif Nat.blt pc 105 then am_cr41 pc else none) = none
  exact am_blt_f q _ _
set_option maxRecDepth 100000 in
theorem am_k42_0 : ((List.range 48).map (fun i => am_ek 42 (i + 0))).all id = true := by decide +kernel
set_option maxRecDepth 100000 in
theorem am_k42_1 : ((List.range 48).map (fun i => am_ek 42 (i + 48))).all id = true := by decide +kernel
set_option maxRecDepth 100000 in
theorem am_k42_2 : ((List.range 2).map (fun i => am_ek 42 (i + 96))).all id = true := by decide +kernel
theorem am_ky42 (pc : Nat) : am_ek 42 pc = true := by
  rcases Nat.lt_or_ge pc 48 with q | q
  · exact am_ek_u am_k42_0 (by omega) (by omega)
  rcases Nat.lt_or_ge pc 96 with q | q
  · exact am_ek_u am_k42_1 (by omega) (by omega)
  rcases Nat.lt_or_ge pc 98 with q | q
  · exact am_ek_u am_k42_2 (by omega) (by omega)
  refine am_ek_none ?_
  show (bif Nat.blt pc 98 then am_cr42 pc else none) = none
  exact am_blt_f q _ _
set_option maxRecDepth 100000 in
theorem am_k43_0 : ((List.range 16).map (fun i => am_ek 43 (i + 0))).all id = true := by decide +kernel
theorem am_ky43 (pc : Nat) : am_ek 43 pc = true := by
  rcases Nat.lt_or_ge pc 16 with q | q
  · exact am_ek_u am_k43_0 (by omega) (by omega)
  refine am_ek_none ?_
  show (bif Nat.blt pc 16 then am_cr43 pc else none) = none
  exact am_blt_f q _ _
set_option maxRecDepth 100000 in
theorem am_k44_0 : ((List.range 41).map (fun i => am_ek 44 (i + 0))).all id = true := by decide +kernel
theorem am_ky44 (pc : Nat) : am_ek 44 pc = true := by
  rcases Nat.lt_or_ge pc 41 with q | q
  · exact am_ek_u am_k44_0 (by omega) (by omega)
  refine am_ek_none ?_
  show (bif Nat.blt pc 41 then am_cr44 pc else none) = none
  exact am_blt_f q _ _
set_option maxRecDepth 100000 in
theorem am_k45_0 : ((List.range 24).map (fun i => am_ek 45 (i + 0))).all id = true := by decide +kernel
theorem am_ky45 (pc : Nat) : am_ek 45 pc = true := by
  rcases Nat.lt_or_ge pc 24 with q | q
  · exact am_ek_u am_k45_0 (by omega) (by omega)
  refine am_ek_none ?_
  show (bif Nat.blt pc 24 then am_cr45 pc else none) = none
  exact am_blt_f q _ _
set_option maxRecDepth 100000 in
theorem am_k46_0 : ((List.range 48).map (fun i => am_ek 46 (i + 0))).all id = true := by decide +kernel
set_option maxRecDepth 100000 in
theorem am_k46_1 : ((List.range 48).map (fun i => am_ek 46 (i + 48))).all id = true := by decide +kernel
set_option maxRecDepth 100000 in
theorem am_k46_2 : ((List.range 48).map (fun i => am_ek 46 (i + 96))).all id = true := by decide +kernel
set_option maxRecDepth 100000 in
theorem am_k46_3 : ((List.range 34).map (fun i => am_ek 46 (i + 144))).all id = true := by decide +kernel
theorem am_ky46 (pc : Nat) : am_ek 46 pc = true := by
  rcases Nat.lt_or_ge pc 48 with q | q
  · exact am_ek_u am_k46_0 (by omega) (by omega)
  rcases Nat.lt_or_ge pc 96 with q | q
  · exact am_ek_u am_k46_1 (by omega) (by omega)
  rcases Nat.lt_or_ge pc 144 with q | q
  · exact am_ek_u am_k46_2 (by omega) (by omega)
  rcases Nat.lt_or_ge pc 178 with q | q
  · exact am_ek_u am_k46_3 (by omega) (by omega)
  refine am_ek_none ?_
  show (bif Nat.blt pc 178 then am_cr46 pc else none) = none
  exact am_blt_f q _ _
set_option maxRecDepth 100000 in
theorem am_k47_0 : ((List.range 15).map (fun i => am_ek 47 (i + 0))).all id = true := by decide +kernel
theorem am_ky47 (pc : Nat) : am_ek 47 pc = true := by
  rcases Nat.lt_or_ge pc 15 with q | q
  · exact am_ek_u am_k47_0 (by omega) (by omega)
  refine am_ek_none ?_
  show (bif Nat.blt pc 15 then am_cr47 pc else none) = none
  exact am_blt_f q _ _
set_option maxRecDepth 100000 in
theorem am_k48_0 : ((List.range 22).map (fun i => am_ek 48 (i + 0))).all id = true := by decide +kernel
theorem am_ky48 (pc : Nat) : am_ek 48 pc = true := by
  rcases Nat.lt_or_ge pc 22 with q | q
  · exact am_ek_u am_k48_0 (by omega) (by omega)
  refine am_ek_none ?_
  show (bif Nat.blt pc 22 then am_cr48 pc else none) = none
  exact am_blt_f q _ _
set_option maxRecDepth 100000 in
theorem am_k49_0 : ((List.range 48).map (fun i => am_ek 49 (i + 0))).all id = true := by decide +kernel
set_option maxRecDepth 100000 in
theorem am_k49_1 : ((List.range 18).map (fun i => am_ek 49 (i + 48))).all id = true := by decide +kernel
theorem am_ky49 (pc : Nat) : am_ek 49 pc = true := by
  rcases Nat.lt_or_ge pc 48 with q | q
  · exact am_ek_u am_k49_0 (by omega) (by omega)
  rcases Nat.lt_or_ge pc 66 with q | q
  · exact am_ek_u am_k49_1 (by omega) (by omega)
  refine am_ek_none ?_
  show (bif Nat.blt pc 66 then am_cr49 pc else none) = none
  exact am_blt_f q _ _
