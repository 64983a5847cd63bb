/-! THE START: what the Statement gives of statics, constant arrays and Strings -/
def am_fc : List Cond := flatC (Cond.and given_1 narrow_1)
theorem am_fc_ok {args : Array Value} {s : State} (h : (Cond.and given_1 narrow_1).before args s = true) : ∀ c ∈ am_fc, c.before args s = true := flat_of_before _ h
theorem am_sub {α : Type} {l m : List α} {a n : Nat} (h : (l.drop a).take n = m) : ∀ x ∈ m, x ∈ l := fun x hx => by
  rw [← h] at hx
  exact List.mem_of_mem_drop (List.mem_of_mem_take hx)
theorem am_rgn {α : Type} {l : List α} {a n : Nat} {f : Nat → α} (h : (l.drop a).take n = (List.range n).map f) : ∀ k, k < n → f k ∈ l := fun k hk => am_sub h _ (List.mem_map.mpr ⟨k, List.mem_range.mpr hk, rfl⟩)
set_option maxRecDepth 100000 in
theorem am_s0_a : (am_fc.drop 5).take 1 = [Cond.arrayOf (Term.static "PlanMemo" "EXPRESSION_ABOVE" "[I") .int] := rfl
set_option maxRecDepth 100000 in
theorem am_s0_l : (am_fc.drop 6).take 1 = [Cond.eq (.length (Term.static "PlanMemo" "EXPRESSION_ABOVE" "[I")) (.int (Int32.ofNat 7))] := rfl
set_option maxRecDepth 100000 in
theorem am_s0_e : (am_fc.drop 7).take 7 = (List.range 7).map fun k => Cond.eq (.elem (Term.static "PlanMemo" "EXPRESSION_ABOVE" "[I") (.int (Int32.ofNat k))) (.int (Int32.ofInt (am_kc 1000 k))) := rfl
theorem am_s0_ok {args : Array Value} {s : State} {A : Nat → Prop} (hf : ∀ c ∈ am_fc, c.before args s = true) (hA : ∀ a : Nat, a < s.heap.size → ¬ A a) : ∃ t : Nat, (Term.static "PlanMemo" "EXPRESSION_ABOVE" "[I").eval args s none [] s = some (.ref t) ∧ va_T .int t 7 (fun k => .int (Int32.ofInt (am_kc 1000 k))) A s s.heap :=
  va_Tof (by decide) (hf _ (am_sub am_s0_a _ List.mem_cons_self)) (va_eqt (hf _ (am_sub am_s0_l _ List.mem_cons_self))) (fun k hk => va_eqt (hf _ (am_rgn am_s0_e k hk))) hA
set_option maxRecDepth 100000 in
theorem am_s1_a : (am_fc.drop 20).take 1 = [Cond.arrayOf (Term.static "PlanMemo" "RULE_TAKES" "[I") .int] := rfl
set_option maxRecDepth 100000 in
theorem am_s1_l : (am_fc.drop 21).take 1 = [Cond.eq (.length (Term.static "PlanMemo" "RULE_TAKES" "[I")) (.int (Int32.ofNat 7))] := rfl
set_option maxRecDepth 100000 in
theorem am_s1_e : (am_fc.drop 22).take 7 = (List.range 7).map fun k => Cond.eq (.elem (Term.static "PlanMemo" "RULE_TAKES" "[I") (.int (Int32.ofNat k))) (.int (Int32.ofInt (am_kc 1001 k))) := rfl
theorem am_s1_ok {args : Array Value} {s : State} {A : Nat → Prop} (hf : ∀ c ∈ am_fc, c.before args s = true) (hA : ∀ a : Nat, a < s.heap.size → ¬ A a) : ∃ t : Nat, (Term.static "PlanMemo" "RULE_TAKES" "[I").eval args s none [] s = some (.ref t) ∧ va_T .int t 7 (fun k => .int (Int32.ofInt (am_kc 1001 k))) A s s.heap :=
  va_Tof (by decide) (hf _ (am_sub am_s1_a _ List.mem_cons_self)) (va_eqt (hf _ (am_sub am_s1_l _ List.mem_cons_self))) (fun k hk => va_eqt (hf _ (am_rgn am_s1_e k hk))) hA
set_option maxRecDepth 100000 in
theorem am_s2_a : (am_fc.drop 65).take 1 = [Cond.arrayOf (Term.static "PlanMemo" "WAY_ABOVE" "[I") .int] := rfl
set_option maxRecDepth 100000 in
theorem am_s2_l : (am_fc.drop 66).take 1 = [Cond.eq (.length (Term.static "PlanMemo" "WAY_ABOVE" "[I")) (.int (Int32.ofNat 12))] := rfl
set_option maxRecDepth 100000 in
theorem am_s2_e : (am_fc.drop 67).take 12 = (List.range 12).map fun k => Cond.eq (.elem (Term.static "PlanMemo" "WAY_ABOVE" "[I") (.int (Int32.ofNat k))) (.int (Int32.ofInt (am_kc 1002 k))) := rfl
theorem am_s2_ok {args : Array Value} {s : State} {A : Nat → Prop} (hf : ∀ c ∈ am_fc, c.before args s = true) (hA : ∀ a : Nat, a < s.heap.size → ¬ A a) : ∃ t : Nat, (Term.static "PlanMemo" "WAY_ABOVE" "[I").eval args s none [] s = some (.ref t) ∧ va_T .int t 12 (fun k => .int (Int32.ofInt (am_kc 1002 k))) A s s.heap :=
  va_Tof (by decide) (hf _ (am_sub am_s2_a _ List.mem_cons_self)) (va_eqt (hf _ (am_sub am_s2_l _ List.mem_cons_self))) (fun k hk => va_eqt (hf _ (am_rgn am_s2_e k hk))) hA
set_option maxRecDepth 100000 in
theorem am_s3_a : (am_fc.drop 50).take 1 = [Cond.arrayOf (Term.static "PlanMemo" "READS_BODY" "[I") .int] := rfl
set_option maxRecDepth 100000 in
theorem am_s3_l : (am_fc.drop 51).take 1 = [Cond.eq (.length (Term.static "PlanMemo" "READS_BODY" "[I")) (.int (Int32.ofNat 12))] := rfl
set_option maxRecDepth 100000 in
theorem am_s3_e : (am_fc.drop 52).take 12 = (List.range 12).map fun k => Cond.eq (.elem (Term.static "PlanMemo" "READS_BODY" "[I") (.int (Int32.ofNat k))) (.int (Int32.ofInt (am_kc 1003 k))) := rfl
theorem am_s3_ok {args : Array Value} {s : State} {A : Nat → Prop} (hf : ∀ c ∈ am_fc, c.before args s = true) (hA : ∀ a : Nat, a < s.heap.size → ¬ A a) : ∃ t : Nat, (Term.static "PlanMemo" "READS_BODY" "[I").eval args s none [] s = some (.ref t) ∧ va_T .int t 12 (fun k => .int (Int32.ofInt (am_kc 1003 k))) A s s.heap :=
  va_Tof (by decide) (hf _ (am_sub am_s3_a _ List.mem_cons_self)) (va_eqt (hf _ (am_sub am_s3_l _ List.mem_cons_self))) (fun k hk => va_eqt (hf _ (am_rgn am_s3_e k hk))) hA
set_option maxRecDepth 100000 in
theorem am_s4_a : (am_fc.drop 80).take 1 = [Cond.arrayOf (Term.static "PlanMemo" "WORKS_BODY" "[I") .int] := rfl
set_option maxRecDepth 100000 in
theorem am_s4_l : (am_fc.drop 81).take 1 = [Cond.eq (.length (Term.static "PlanMemo" "WORKS_BODY" "[I")) (.int (Int32.ofNat 12))] := rfl
set_option maxRecDepth 100000 in
theorem am_s4_e : (am_fc.drop 82).take 12 = (List.range 12).map fun k => Cond.eq (.elem (Term.static "PlanMemo" "WORKS_BODY" "[I") (.int (Int32.ofNat k))) (.int (Int32.ofInt (am_kc 1004 k))) := rfl
theorem am_s4_ok {args : Array Value} {s : State} {A : Nat → Prop} (hf : ∀ c ∈ am_fc, c.before args s = true) (hA : ∀ a : Nat, a < s.heap.size → ¬ A a) : ∃ t : Nat, (Term.static "PlanMemo" "WORKS_BODY" "[I").eval args s none [] s = some (.ref t) ∧ va_T .int t 12 (fun k => .int (Int32.ofInt (am_kc 1004 k))) A s s.heap :=
  va_Tof (by decide) (hf _ (am_sub am_s4_a _ List.mem_cons_self)) (va_eqt (hf _ (am_sub am_s4_l _ List.mem_cons_self))) (fun k hk => va_eqt (hf _ (am_rgn am_s4_e k hk))) hA
set_option maxRecDepth 100000 in
theorem am_s5_a : (am_fc.drop 40).take 1 = [Cond.arrayOf (Term.static "PlanMemo" "FIRST_WAY_OF" "[I") .int] := rfl
set_option maxRecDepth 100000 in
theorem am_s5_l : (am_fc.drop 41).take 1 = [Cond.eq (.length (Term.static "PlanMemo" "FIRST_WAY_OF" "[I")) (.int (Int32.ofNat 7))] := rfl
set_option maxRecDepth 100000 in
theorem am_s5_e : (am_fc.drop 42).take 7 = (List.range 7).map fun k => Cond.eq (.elem (Term.static "PlanMemo" "FIRST_WAY_OF" "[I") (.int (Int32.ofNat k))) (.int (Int32.ofInt (am_kc 1005 k))) := rfl
theorem am_s5_ok {args : Array Value} {s : State} {A : Nat → Prop} (hf : ∀ c ∈ am_fc, c.before args s = true) (hA : ∀ a : Nat, a < s.heap.size → ¬ A a) : ∃ t : Nat, (Term.static "PlanMemo" "FIRST_WAY_OF" "[I").eval args s none [] s = some (.ref t) ∧ va_T .int t 7 (fun k => .int (Int32.ofInt (am_kc 1005 k))) A s s.heap :=
  va_Tof (by decide) (hf _ (am_sub am_s5_a _ List.mem_cons_self)) (va_eqt (hf _ (am_sub am_s5_l _ List.mem_cons_self))) (fun k hk => va_eqt (hf _ (am_rgn am_s5_e k hk))) hA
set_option maxRecDepth 100000 in
theorem am_s6_a : (am_fc.drop 30).take 1 = [Cond.arrayOf (Term.static "PlanMemo" "SLOTS_OF" "[I") .int] := rfl
set_option maxRecDepth 100000 in
theorem am_s6_l : (am_fc.drop 31).take 1 = [Cond.eq (.length (Term.static "PlanMemo" "SLOTS_OF" "[I")) (.int (Int32.ofNat 7))] := rfl
set_option maxRecDepth 100000 in
theorem am_s6_e : (am_fc.drop 32).take 7 = (List.range 7).map fun k => Cond.eq (.elem (Term.static "PlanMemo" "SLOTS_OF" "[I") (.int (Int32.ofNat k))) (.int (Int32.ofInt (am_kc 1006 k))) := rfl
theorem am_s6_ok {args : Array Value} {s : State} {A : Nat → Prop} (hf : ∀ c ∈ am_fc, c.before args s = true) (hA : ∀ a : Nat, a < s.heap.size → ¬ A a) : ∃ t : Nat, (Term.static "PlanMemo" "SLOTS_OF" "[I").eval args s none [] s = some (.ref t) ∧ va_T .int t 7 (fun k => .int (Int32.ofInt (am_kc 1006 k))) A s s.heap :=
  va_Tof (by decide) (hf _ (am_sub am_s6_a _ List.mem_cons_self)) (va_eqt (hf _ (am_sub am_s6_l _ List.mem_cons_self))) (fun k hk => va_eqt (hf _ (am_rgn am_s6_e k hk))) hA
def am_tm : Nat → Term := fun i => bif Nat.beq i 0 then .string "PlanMemo" 384 else bif Nat.beq i 1 then .string "PlanMemo" 386 else bif Nat.beq i 2 then .string "PlanMemo" 388 else bif Nat.beq i 3 then .string "PlanMemo" 390 else bif Nat.beq i 4 then .string "PlanMemo" 392 else bif Nat.beq i 5 then .string "PlanMemoModel" 451 else bif Nat.beq i 6 then .string "PlanMemoModel" 453 else bif Nat.beq i 7 then .string "PlanMemoModel" 455 else .arg 0
set_option maxRecDepth 100000 in
theorem am_t0_a : (am_fc.drop 94).take 4 = [Cond.exactly (am_tm 0) "java/lang/String", Cond.eq (.field (am_tm 0) "java/lang/String" "code\x72" "B") (.int 0), Cond.arrayOf (.field (am_tm 0) "java/lang/String" "value" "[B") .byte, Cond.eq (.length (.field (am_tm 0) "java/lang/String" "value" "[B")) (.int (Int32.ofNat (am_slen.getD 0 0)))] := rfl
set_option maxRecDepth 100000 in
theorem am_t0_e : (am_fc.drop 98).take 5 = (List.range 5).map fun k => Cond.eq (.elem (.field (am_tm 0) "java/lang/String" "value" "[B") (.int (Int32.ofNat k))) (.int ((am_sbyt.getD 0 []).getD k 0)) := rfl
set_option maxRecDepth 100000 in
theorem am_t1_a : (am_fc.drop 103).take 4 = [Cond.exactly (am_tm 1) "java/lang/String", Cond.eq (.field (am_tm 1) "java/lang/String" "code\x72" "B") (.int 0), Cond.arrayOf (.field (am_tm 1) "java/lang/String" "value" "[B") .byte, Cond.eq (.length (.field (am_tm 1) "java/lang/String" "value" "[B")) (.int (Int32.ofNat (am_slen.getD 1 0)))] := rfl
set_option maxRecDepth 100000 in
theorem am_t1_e : (am_fc.drop 107).take 5 = (List.range 5).map fun k => Cond.eq (.elem (.field (am_tm 1) "java/lang/String" "value" "[B") (.int (Int32.ofNat k))) (.int ((am_sbyt.getD 1 []).getD k 0)) := rfl
set_option maxRecDepth 100000 in
theorem am_t2_a : (am_fc.drop 113).take 4 = [Cond.exactly (am_tm 2) "java/lang/String", Cond.eq (.field (am_tm 2) "java/lang/String" "code\x72" "B") (.int 0), Cond.arrayOf (.field (am_tm 2) "java/lang/String" "value" "[B") .byte, Cond.eq (.length (.field (am_tm 2) "java/lang/String" "value" "[B")) (.int (Int32.ofNat (am_slen.getD 2 0)))] := rfl
set_option maxRecDepth 100000 in
theorem am_t2_e : (am_fc.drop 117).take 6 = (List.range 6).map fun k => Cond.eq (.elem (.field (am_tm 2) "java/lang/String" "value" "[B") (.int (Int32.ofNat k))) (.int ((am_sbyt.getD 2 []).getD k 0)) := rfl
set_option maxRecDepth 100000 in
theorem am_t3_a : (am_fc.drop 125).take 4 = [Cond.exactly (am_tm 3) "java/lang/String", Cond.eq (.field (am_tm 3) "java/lang/String" "code\x72" "B") (.int 0), Cond.arrayOf (.field (am_tm 3) "java/lang/String" "value" "[B") .byte, Cond.eq (.length (.field (am_tm 3) "java/lang/String" "value" "[B")) (.int (Int32.ofNat (am_slen.getD 3 0)))] := rfl
set_option maxRecDepth 100000 in
theorem am_t3_e : (am_fc.drop 129).take 5 = (List.range 5).map fun k => Cond.eq (.elem (.field (am_tm 3) "java/lang/String" "value" "[B") (.int (Int32.ofNat k))) (.int ((am_sbyt.getD 3 []).getD k 0)) := rfl
set_option maxRecDepth 100000 in
theorem am_t4_a : (am_fc.drop 137).take 4 = [Cond.exactly (am_tm 4) "java/lang/String", Cond.eq (.field (am_tm 4) "java/lang/String" "code\x72" "B") (.int 0), Cond.arrayOf (.field (am_tm 4) "java/lang/String" "value" "[B") .byte, Cond.eq (.length (.field (am_tm 4) "java/lang/String" "value" "[B")) (.int (Int32.ofNat (am_slen.getD 4 0)))] := rfl
set_option maxRecDepth 100000 in
theorem am_t4_e : (am_fc.drop 141).take 5 = (List.range 5).map fun k => Cond.eq (.elem (.field (am_tm 4) "java/lang/String" "value" "[B") (.int (Int32.ofNat k))) (.int ((am_sbyt.getD 4 []).getD k 0)) := rfl
set_option maxRecDepth 100000 in
theorem am_t5_a : (am_fc.drop 231).take 4 = [Cond.exactly (am_tm 5) "java/lang/String", Cond.eq (.field (am_tm 5) "java/lang/String" "code\x72" "B") (.int 0), Cond.arrayOf (.field (am_tm 5) "java/lang/String" "value" "[B") .byte, Cond.eq (.length (.field (am_tm 5) "java/lang/String" "value" "[B")) (.int (Int32.ofNat (am_slen.getD 5 0)))] := rfl
set_option maxRecDepth 100000 in
theorem am_t5_e : (am_fc.drop 235).take 1 = (List.range 1).map fun k => Cond.eq (.elem (.field (am_tm 5) "java/lang/String" "value" "[B") (.int (Int32.ofNat k))) (.int ((am_sbyt.getD 5 []).getD k 0)) := rfl
set_option maxRecDepth 100000 in
theorem am_t6_a : (am_fc.drop 246).take 4 = [Cond.exactly (am_tm 6) "java/lang/String", Cond.eq (.field (am_tm 6) "java/lang/String" "code\x72" "B") (.int 0), Cond.arrayOf (.field (am_tm 6) "java/lang/String" "value" "[B") .byte, Cond.eq (.length (.field (am_tm 6) "java/lang/String" "value" "[B")) (.int (Int32.ofNat (am_slen.getD 6 0)))] := rfl
set_option maxRecDepth 100000 in
theorem am_t6_e : (am_fc.drop 250).take 1 = (List.range 1).map fun k => Cond.eq (.elem (.field (am_tm 6) "java/lang/String" "value" "[B") (.int (Int32.ofNat k))) (.int ((am_sbyt.getD 6 []).getD k 0)) := rfl
set_option maxRecDepth 100000 in
theorem am_t7_a : (am_fc.drop 262).take 4 = [Cond.exactly (am_tm 7) "java/lang/String", Cond.eq (.field (am_tm 7) "java/lang/String" "code\x72" "B") (.int 0), Cond.arrayOf (.field (am_tm 7) "java/lang/String" "value" "[B") .byte, Cond.eq (.length (.field (am_tm 7) "java/lang/String" "value" "[B")) (.int (Int32.ofNat (am_slen.getD 7 0)))] := rfl
set_option maxRecDepth 100000 in
theorem am_t7_e : (am_fc.drop 266).take 1 = (List.range 1).map fun k => Cond.eq (.elem (.field (am_tm 7) "java/lang/String" "value" "[B") (.int (Int32.ofNat k))) (.int ((am_sbyt.getD 7 []).getD k 0)) := rfl
def am_nep : List (Nat × Nat × Nat) := [(0, 1, 112), (0, 2, 123), (0, 3, 134), (0, 4, 146), (0, 5, 236), (0, 6, 251), (0, 7, 267), (1, 2, 124), (1, 3, 135), (1, 4, 147), (1, 5, 237), (1, 6, 252), (1, 7, 268), (2, 3, 136), (2, 4, 148), (2, 5, 238), (2, 6, 253), (2, 7, 269), (3, 4, 149), (3, 5, 239), (3, 6, 254), (3, 7, 270), (4, 5, 240), (4, 6, 255), (4, 7, 271), (5, 6, 261), (5, 7, 277), (6, 7, 278)]
theorem am_nep_ok : ∀ i, i < 8 → ∀ j, j < 8 → i ≠ j → (∃ e ∈ am_nep, e.1 = i ∧ e.2.1 = j) ∨ ∃ e ∈ am_nep, e.1 = j ∧ e.2.1 = i := by decide +kernel
set_option maxRecDepth 100000 in
theorem am_nep_at : am_nep.map (fun e => am_fc[e.2.2]?) = am_nep.map (fun e => some (Cond.not (Cond.eq (am_tm e.1) (am_tm e.2.1)))) := rfl
theorem am_map_at {α β : Type} {l : List α} {f g : α → β} (h : l.map f = l.map g) : ∀ e ∈ l, f e = g e := by
  induction l with
  | nil => intro e he; cases he
  | cons a l ih =>
    intro e he
    rw [List.map_cons, List.map_cons] at h
    injection h with h1 h2
    rcases List.mem_cons.mp he with q | q
    · rw [q]; exact h1
    · exact ih h2 e q
theorem am_str_ok {args : Array Value} {s : State} {A : Nat → Prop} (hf : ∀ c ∈ am_fc, c.before args s = true) (hA : ∀ a : Nat, a < s.heap.size → ¬ A a) : ∃ adK adV : Nat → Nat, vk_S 8 am_slen am_sbyt adK adV A s s.heap ∧ ∀ i : Nat, i < 8 → (am_tm i).eval args s none [] s = some (.ref (adK i)) := by
  have h8 : ∀ {p : Nat → Prop}, p 0 → p 1 → p 2 → p 3 → p 4 → p 5 → p 6 → p 7 → ∀ i, i < 8 → p i := by
    intro p h0 h1 h2 h3 h4 h5 h6 h7 i hi
    rcases (by omega : i = 0 ∨ i = 1 ∨ i = 2 ∨ i = 3 ∨ i = 4 ∨ i = 5 ∨ i = 6 ∨ i = 7) with e | e | e | e | e | e | e | e <;> subst e <;> assumption
  refine vk_Sof (N := 8) (tm := am_tm) (len := am_slen) (byt := am_sbyt) (by decide) ?_ ?_ ?_ ?_ ?_ ?_ hA
  · exact h8 (hf _ (am_sub am_t0_a _ (List.mem_of_getElem? (i := 0) rfl))) (hf _ (am_sub am_t1_a _ (List.mem_of_getElem? (i := 0) rfl))) (hf _ (am_sub am_t2_a _ (List.mem_of_getElem? (i := 0) rfl))) (hf _ (am_sub am_t3_a _ (List.mem_of_getElem? (i := 0) rfl))) (hf _ (am_sub am_t4_a _ (List.mem_of_getElem? (i := 0) rfl))) (hf _ (am_sub am_t5_a _ (List.mem_of_getElem? (i := 0) rfl))) (hf _ (am_sub am_t6_a _ (List.mem_of_getElem? (i := 0) rfl))) (hf _ (am_sub am_t7_a _ (List.mem_of_getElem? (i := 0) rfl)))
  · exact h8 (hf _ (am_sub am_t0_a _ (List.mem_of_getElem? (i := 1) rfl))) (hf _ (am_sub am_t1_a _ (List.mem_of_getElem? (i := 1) rfl))) (hf _ (am_sub am_t2_a _ (List.mem_of_getElem? (i := 1) rfl))) (hf _ (am_sub am_t3_a _ (List.mem_of_getElem? (i := 1) rfl))) (hf _ (am_sub am_t4_a _ (List.mem_of_getElem? (i := 1) rfl))) (hf _ (am_sub am_t5_a _ (List.mem_of_getElem? (i := 1) rfl))) (hf _ (am_sub am_t6_a _ (List.mem_of_getElem? (i := 1) rfl))) (hf _ (am_sub am_t7_a _ (List.mem_of_getElem? (i := 1) rfl)))
  · exact h8 (hf _ (am_sub am_t0_a _ (List.mem_of_getElem? (i := 2) rfl))) (hf _ (am_sub am_t1_a _ (List.mem_of_getElem? (i := 2) rfl))) (hf _ (am_sub am_t2_a _ (List.mem_of_getElem? (i := 2) rfl))) (hf _ (am_sub am_t3_a _ (List.mem_of_getElem? (i := 2) rfl))) (hf _ (am_sub am_t4_a _ (List.mem_of_getElem? (i := 2) rfl))) (hf _ (am_sub am_t5_a _ (List.mem_of_getElem? (i := 2) rfl))) (hf _ (am_sub am_t6_a _ (List.mem_of_getElem? (i := 2) rfl))) (hf _ (am_sub am_t7_a _ (List.mem_of_getElem? (i := 2) rfl)))
  · exact h8 (hf _ (am_sub am_t0_a _ (List.mem_of_getElem? (i := 3) rfl))) (hf _ (am_sub am_t1_a _ (List.mem_of_getElem? (i := 3) rfl))) (hf _ (am_sub am_t2_a _ (List.mem_of_getElem? (i := 3) rfl))) (hf _ (am_sub am_t3_a _ (List.mem_of_getElem? (i := 3) rfl))) (hf _ (am_sub am_t4_a _ (List.mem_of_getElem? (i := 3) rfl))) (hf _ (am_sub am_t5_a _ (List.mem_of_getElem? (i := 3) rfl))) (hf _ (am_sub am_t6_a _ (List.mem_of_getElem? (i := 3) rfl))) (hf _ (am_sub am_t7_a _ (List.mem_of_getElem? (i := 3) rfl)))
  · exact h8 (fun k hk => hf _ (am_rgn am_t0_e k hk)) (fun k hk => hf _ (am_rgn am_t1_e k hk)) (fun k hk => hf _ (am_rgn am_t2_e k hk)) (fun k hk => hf _ (am_rgn am_t3_e k hk)) (fun k hk => hf _ (am_rgn am_t4_e k hk)) (fun k hk => hf _ (am_rgn am_t5_e k hk)) (fun k hk => hf _ (am_rgn am_t6_e k hk)) (fun k hk => hf _ (am_rgn am_t7_e k hk))
  · intro i j hi hj hne
    rcases am_nep_ok i hi j hj hne with ⟨e, he, e1, e2⟩ | ⟨e, he, e1, e2⟩
    · left
      have := am_map_at am_nep_at e he
      rw [e1, e2] at this
      exact hf _ (List.mem_of_getElem? this)
    · right
      have := am_map_at am_nep_at e he
      rw [e1, e2] at this
      exact hf _ (List.mem_of_getElem? this)
theorem am_rows_tb {l : List (Nat × Cond)} (h : am_rows l) : ∀ q ∈ l, q.2 ∈ lw_tbl := by
  induction l with
  | nil => intro q hq; cases hq
  | cons a l ih =>
    intro q hq
    unfold am_rows at h
    rw [List.map_cons, List.map_cons, List.cons.injEq] at h
    rcases List.mem_cons.mp hq with e | hq
    · subst e; exact am_tb_in (List.mem_of_getElem? h.1)
    · exact ih h.2 q hq
def am_layl : List (Nat × Cond) := [(3066, Cond.laysStatic "PlanMemo" "EXPRESSION_ABOVE" "[I"), (4142, Cond.laysStatic "PlanMemo" "RULE_TAKES" "[I"), (5009, Cond.laysStatic "PlanMemo" "WAY_ABOVE" "[I"), (5003, Cond.laysStatic "PlanMemo" "READS_BODY" "[I"), (5019, Cond.laysStatic "PlanMemo" "WORKS_BODY" "[I"), (4233, Cond.laysStatic "PlanMemo" "FIRST_WAY_OF" "[I"), (4231, Cond.laysStatic "PlanMemo" "SLOTS_OF" "[I"), (3212, Cond.laysStatic "java/lang/String" "COMPACT_STRINGS" "Z"), (3228, Cond.laysStatic "jdk/internal/util/Preconditions" "SIOOBE_FORMATTER" "Ljava/util/function/BiFunction;")]
set_option maxRecDepth 100000 in
theorem am_layl_ok : am_rows am_layl := rfl
def am_inil : List (Nat × Cond) := [(1001, Cond.initialized "PlanMemo"), (1015, Cond.initialized "java/lang/String"), (1017, Cond.initialized "jdk/internal/util/Preconditions")]
set_option maxRecDepth 100000 in
theorem am_inil_ok : am_rows am_inil := rfl
def am_srl : List (Nat × Cond) := [(7200, Cond.stringRef (am_cn 10) 297 "scan "), (7201, Cond.stringRef (am_cn 10) 299 "keep "), (7202, Cond.stringRef (am_cn 10) 301 "tally "), (7203, Cond.stringRef (am_cn 10) 303 "join "), (7204, Cond.stringRef (am_cn 10) 305 "half "), (8181, Cond.stringRef (am_cn 10) 451 "("), (8182, Cond.stringRef (am_cn 10) 453 ","), (8183, Cond.stringRef (am_cn 10) 455 ")"), (3198, Cond.stringRef (am_cn 9) 384 "scan "), (3199, Cond.stringRef (am_cn 9) 386 "keep "), (3200, Cond.stringRef (am_cn 9) 388 "tally "), (3201, Cond.stringRef (am_cn 9) 390 "join "), (3202, Cond.stringRef (am_cn 9) 392 "half ")]
set_option maxRecDepth 100000 in
theorem am_srl_ok : am_rows am_srl := rfl
def am_npos : List Nat := [1220, 2143, 2146, 2166, 3133, 3153, 3195, 4032, 4037, 4141, 4154, 4230, 4232, 5002, 5008, 5018, 5053, 5059, 5069, 5207]
set_option maxRecDepth 100000 in
theorem am_npos_ok : am_npos.map am_tbp = am_nest.map some := rfl
theorem am_nest_tb : ∀ w ∈ am_nest, w ∈ lw_tbl := by
  have key : ∀ (l : List Nat) (m : List Cond), l.map am_tbp = m.map some → ∀ w ∈ m, w ∈ lw_tbl := by
    intro l
    induction l with
    | nil =>
      intro m h w hw
      cases m with
      | nil => cases hw
      | cons a m => cases h
    | cons a l ih =>
      intro m h w hw
      cases m with
      | nil => cases hw
      | cons b m =>
        rw [List.map_cons, List.map_cons, List.cons.injEq] at h
        rcases List.mem_cons.mp hw with e | hw
        · subst e; exact am_tb_in (List.mem_of_getElem? h.1)
        · exact ih m h.2 w hw
  exact key _ _ am_npos_ok
theorem am_nest_tab : ∀ w ∈ am_nest, w.onTables = true := by
  have : am_nest.all (fun w => w.onTables) = true := rfl
  exact fun w hw => List.all_eq_true.mp this w hw
theorem am_ao_tb : Cond.arrayOver (.object "PlanMemo$Shelf") ∈ lw_tbl := am_tb_in (i := 1) (List.mem_of_getElem? (i := 29) rfl)
set_option maxRecDepth 100000 in
theorem am_f12 : (am_fc.drop 14).take 2 = [Cond.eq (.static "java/lang/String" "COMPACT_STRINGS" "Z") (.int 1), Cond.isRef (.static "jdk/internal/util/Preconditions" "SIOOBE_FORMATTER" "Ljava/util/function/BiFunction;")] := rfl
def am_eqp : List (Nat × Nat × Nat) := [(0, 297, 159), (1, 299, 174), (2, 301, 191), (3, 303, 208), (4, 305, 226)]
set_option maxRecDepth 100000 in
theorem am_eqp_at : am_eqp.map (fun e => am_fc[e.2.2]?) = am_eqp.map (fun e => some (Cond.eq (am_tm e.1) (.string "PlanMemoModel" e.2.1))) := rfl
theorem am_sref_src : ∀ e ∈ am_sref, (am_tm e.2.2.2 = .string (am_cn e.1) e.2.1 ∧ e.2.2.2 < 8) ∨ ∃ x ∈ am_eqp, x.1 = e.2.2.2 ∧ x.2.1 = e.2.1 ∧ am_cn e.1 = "PlanMemoModel" ∧ e.2.2.2 < 8 := by
  intro e he
  simp only [am_sref, List.mem_cons, List.not_mem_nil, or_false] at he
  rcases he with h | h | h | h | h | h | h | h | h | h | h | h | h <;> subst h
  all_goals first
    | exact Or.inl ⟨rfl, by decide⟩
    | exact Or.inr ⟨_, List.mem_of_getElem? (i := 0) rfl, rfl, rfl, rfl, by decide⟩
    | exact Or.inr ⟨_, List.mem_of_getElem? (i := 1) rfl, rfl, rfl, rfl, by decide⟩
    | exact Or.inr ⟨_, List.mem_of_getElem? (i := 2) rfl, rfl, rfl, rfl, by decide⟩
    | exact Or.inr ⟨_, List.mem_of_getElem? (i := 3) rfl, rfl, rfl, rfl, by decide⟩
    | exact Or.inr ⟨_, List.mem_of_getElem? (i := 4) rfl, rfl, rfl, rfl, by decide⟩
theorem am_srl_e : am_srl.map (fun q => q.2) = am_sref.map (fun e => Cond.stringRef (am_cn e.1) e.2.1 e.2.2.1) := rfl
theorem am_sref_tb : ∀ e ∈ am_sref, Cond.stringRef (am_cn e.1) e.2.1 e.2.2.1 ∈ lw_tbl := by
  intro e he
  have : Cond.stringRef (am_cn e.1) e.2.1 e.2.2.1 ∈ am_srl.map (fun q => q.2) := by
    rw [am_srl_e]; exact List.mem_map.mpr ⟨e, he, rfl⟩
  obtain ⟨q, hq, e2⟩ := List.mem_map.mp this
  rw [← e2]
  exact am_rows_tb am_srl_ok q hq
theorem vk_S_ext {N : Nat} {len : List Nat} {byt : List (List Int32)} {adK adV adK' adV' : Nat → Nat} {A : Nat → Prop} {U : State} {H : Heap} (h : vk_S N len byt adK adV A U H) (hK : ∀ i, i < N → adK' i = adK i) (hV : ∀ i, i < N → adV' i = adV i) : vk_S N len byt adK' adV' A U H := by
  refine ⟨fun i hi => ?_, fun i j hi hj e => h.2 i j hi hj (by rw [← hK i hi, ← hK j hj]; exact e)⟩
  rw [hK i hi, hV i hi]
  exact h.1 i hi
/-- the static facts at the start -/
theorem am_start {args : Array Value} {s : State} (hts : ∀ w ∈ lw_tbl, w.before args s = true) (hgv : (Cond.and given_1 narrow_1).before args s = true) : ∃ (ka : Nat → Nat) (vF : Value), am_St s.heap.size ka vF s s.heap := by
  have hf := am_fc_ok hgv
  have hA : ∀ a : Nat, a < s.heap.size → ¬ s.heap.size ≤ a := fun a h => by omega
  have hl : ∀ q ∈ am_layl, q.2.before args s = true := fun q hq => hts _ (am_rows_tb am_layl_ok q hq)
  have hi : ∀ q ∈ am_inil, q.2.before args s = true := fun q hq => hts _ (am_rows_tb am_inil_ok q hq)
  obtain ⟨t0, h0, T0⟩ := am_s0_ok (A := fun q => s.heap.size ≤ q) hf hA
  obtain ⟨t1, h1, T1⟩ := am_s1_ok (A := fun q => s.heap.size ≤ q) hf hA
  obtain ⟨t2, h2, T2⟩ := am_s2_ok (A := fun q => s.heap.size ≤ q) hf hA
  obtain ⟨t3, h3, T3⟩ := am_s3_ok (A := fun q => s.heap.size ≤ q) hf hA
  obtain ⟨t4, h4, T4⟩ := am_s4_ok (A := fun q => s.heap.size ≤ q) hf hA
  obtain ⟨t5, h5, T5⟩ := am_s5_ok (A := fun q => s.heap.size ≤ q) hf hA
  obtain ⟨t6, h6, T6⟩ := am_s6_ok (A := fun q => s.heap.size ≤ q) hf hA
  obtain ⟨adK, adV, hS, hK⟩ := am_str_ok (A := fun q => s.heap.size ≤ q) hf hA
  have hc := va_eqi (hf _ (am_sub am_f12 _ List.mem_cons_self))
  have hF : ∃ vF : Value, (Term.static "jdk/internal/util/Preconditions" "SIOOBE_FORMATTER" "Ljava/util/function/BiFunction;").eval args s none [] s = some vF ∧ (vF = .null ∨ ∃ a, vF = .ref a) := by
    have h := hf _ (am_sub am_f12 _ (List.mem_cons_of_mem _ List.mem_cons_self))
    cases hv : (Term.static "jdk/internal/util/Preconditions" "SIOOBE_FORMATTER" "Ljava/util/function/BiFunction;").eval args s none [] s with
    | none => simp [Cond.before, Cond.holds, Cond.value, hv] at h
    | some v =>
      refine ⟨v, rfl, ?_⟩
      cases v with
      | null => exact Or.inl rfl
      | ref a => exact Or.inr ⟨a, rfl⟩
      | _ => simp [Cond.before, Cond.holds, Cond.value, hv] at h
  obtain ⟨vF, hv, hvF⟩ := hF
  refine ⟨fun i => bif Nat.blt i 1100 then (bif Nat.beq i 1000 then t0 else bif Nat.beq i 1001 then t1 else bif Nat.beq i 1002 then t2 else bif Nat.beq i 1003 then t3 else bif Nat.beq i 1004 then t4 else bif Nat.beq i 1005 then t5 else t6) else bif Nat.blt i 2000 then adV (i - 1100) else adK (i - 2000), vF, ?_, ?_, ?_, hvF, ?_, ?_, ?_, ?_⟩
  · intro j hj
    have hini := hi _ (List.mem_of_getElem? (l := am_inil) (i := 0) rfl)
    rcases (by omega : j = 0 ∨ j = 1 ∨ j = 2 ∨ j = 3 ∨ j = 4 ∨ j = 5 ∨ j = 6) with e | e | e | e | e | e | e <;> subst e
    · exact ⟨va_Zref (hl _ (List.mem_of_getElem? (l := am_layl) (i := 0) rfl)) hini h0 hA, T0⟩
    · exact ⟨va_Zref (hl _ (List.mem_of_getElem? (l := am_layl) (i := 1) rfl)) hini h1 hA, T1⟩
    · exact ⟨va_Zref (hl _ (List.mem_of_getElem? (l := am_layl) (i := 2) rfl)) hini h2 hA, T2⟩
    · exact ⟨va_Zref (hl _ (List.mem_of_getElem? (l := am_layl) (i := 3) rfl)) hini h3 hA, T3⟩
    · exact ⟨va_Zref (hl _ (List.mem_of_getElem? (l := am_layl) (i := 4) rfl)) hini h4 hA, T4⟩
    · exact ⟨va_Zref (hl _ (List.mem_of_getElem? (l := am_layl) (i := 5) rfl)) hini h5 hA, T5⟩
    · exact ⟨va_Zref (hl _ (List.mem_of_getElem? (l := am_layl) (i := 6) rfl)) hini h6 hA, T6⟩
  · exact va_Zof (hl _ (List.mem_of_getElem? (l := am_layl) (i := 7) rfl)) (hi _ (List.mem_of_getElem? (l := am_inil) (i := 1) rfl)) hc hA
  · exact va_Zof (hl _ (List.mem_of_getElem? (l := am_layl) (i := 8) rfl)) (hi _ (List.mem_of_getElem? (l := am_inil) (i := 2) rfl)) hv hA
  · have e1 : (fun i => (bif Nat.blt (2000 + i) 1100 then (bif Nat.beq (2000 + i) 1000 then t0 else bif Nat.beq (2000 + i) 1001 then t1 else bif Nat.beq (2000 + i) 1002 then t2 else bif Nat.beq (2000 + i) 1003 then t3 else bif Nat.beq (2000 + i) 1004 then t4 else bif Nat.beq (2000 + i) 1005 then t5 else t6) else bif Nat.blt (2000 + i) 2000 then adV (2000 + i - 1100) else adK (2000 + i - 2000))) = adK := by
      funext i
      rw [am_blt_f (by omega), am_blt_f (by omega), Nat.add_sub_cancel_left]
    refine vk_S_ext (adK := adK) (adV := adV) hS (fun i _ => congrFun e1 i) (fun i hi => ?_)
    dsimp only
    rw [am_blt_f (by omega), am_blt_t (by omega)]
    show adV (1100 + i - 1100) = adV i
    rw [Nat.add_sub_cancel_left]
  · intro e he
    have hw := hts _ (am_sref_tb e he)
    rcases am_sref_src e he with ⟨e1, e2⟩ | ⟨x, hx, x1, x2, x3, e2⟩
    · have h := hK _ e2
      rw [e1] at h
      have := vk_R.of hw h
      dsimp only
      rw [am_blt_f (by omega), am_blt_f (by omega), Nat.add_sub_cancel_left]
      exact this
    · have h := hK _ e2
      have he2 := hf _ (List.mem_of_getElem? (am_map_at am_eqp_at x hx))
      rw [x1, x2] at he2
      have h2 := va_eqR he2 h
      rw [x3] at hw ⊢
      have := vk_R.of hw h2
      dsimp only
      rw [am_blt_f (by omega), am_blt_f (by omega), Nat.add_sub_cancel_left]
      exact this
  · exact fun w hw => va_Nw.of (am_nest_tab w hw) (hts _ (am_nest_tb w hw))
  · exact va_AO.of (hts _ am_ao_tb)
