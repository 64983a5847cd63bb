def am_tgt (pc : Nat) (off : Int) : Nat := ((pc : Int) + off).toNat
def am_jmp (pc : Nat) (off : Int) (f : Nat → Option am_R) : Option am_R := bif am_nn ((pc : Int) + off) then f (am_tgt pc off) else none
def am_tsw (pc : Nat) (g : Nat → Option am_R) : Int → List Int → List (Int × Option am_R)
  | _, [] => []
  | lo, o :: r => (lo, am_jmp pc o g) :: am_tsw pc g (lo + 1) r
def am_lsw (pc : Nat) (g : Nat → Option am_R) : List (Int × Int) → List (Int × Option am_R)
  | [] => []
  | o :: r => (o.1, am_jmp pc o.2 g) :: am_lsw pc g r
def am_cond (c : ClassFile.Cond) (a b : Int) (x y : Option am_R) : Option am_R := match c with
  | .eq => if a = b then x else y
  | .ne => if a = b then y else x
  | .lt => if a < b then x else y
  | .ge => if a < b then y else x
  | .gt => if b < a then x else y
  | .le => if b < a then y else x
def am_v1 (st : List am_V) (f : Nat → Int → List am_V → Option am_R) : Option am_R := match st with
  | (t, z) :: st => f t z st
  | [] => none
def am_i1 (st : List am_V) (f : Int → List am_V → Option am_R) : Option am_R := am_v1 st fun t z st => bif Nat.beq t 0 then f z st else none
def am_l1 (st : List am_V) (f : Int → List am_V → Option am_R) : Option am_R := am_v1 st fun t z st => bif Nat.beq t 1 then f z st else none
def am_ii (st : List am_V) (f : Int → Int → List am_V → Option am_R) : Option am_R := am_i1 st fun b st => am_i1 st fun a st => f a b st
def am_ll (st : List am_V) (f : Int → Int → List am_V → Option am_R) : Option am_R := am_l1 st fun b st => am_l1 st fun a st => f a b st
def am_li (st : List am_V) (f : Int → Int → List am_V → Option am_R) : Option am_R := am_i1 st fun b st => am_l1 st fun a st => f a b st
/-- an array's place -/
def am_ix (r j : Int) (x : Option am_R) : Option am_R := am_if (¬ r < 0 ∧ 0 ≤ j ∧ j < am_len r.toNat) x
def am_cx (r j : Int) (x : Option am_R) : Option am_R := am_if (0 ≤ j ∧ j < am_len r.toNat) x
/-- System.arraycopy -/
def am_a (a sp b dp z : Int) (x : Option am_R) : Option am_R := am_if (¬ a < 0 ∧ ¬ b < 0 ∧ 0 ≤ sp ∧ 0 ≤ dp ∧ 0 ≤ z ∧ sp + z ≤ am_len a.toNat ∧ dp + z ≤ am_len b.toNat) x
/-- what comes back from a call -/
def am_back (rt : Nat) (z : Int) (st : List am_V) (k : List am_V → Option am_R) : Option am_R := bif Nat.beq rt 9 then k st else k ((rt, z) :: st)
/-- a call: the callee, how many it takes, of what kind the receiver is, what comes back -/
def am_do (call : am_C) (y a rt : Nat) (ok : Nat → Bool) (st : List am_V) (k : List am_V → am_M → Nat → Option am_R) (σ : am_M) (n : Nat) : Option am_R := am_pop a [] st fun as st => am_v1 as fun t z as' =>
  bif ok t && Nat.ble (am_cat st) 8 then am_if (¬ z < 0) ((call y as σ n).bind fun q => am_back rt q.1 st fun st => k st q.2.1 q.2.2) else none
def am_doS (call : am_C) (y a rt : Nat) (st : List am_V) (k : List am_V → am_M → Nat → Option am_R) (σ : am_M) (n : Nat) : Option am_R := am_pop a [] st fun as st =>
  bif Nat.ble (am_cat st) 8 then (call y as σ n).bind fun q => am_back rt q.1 st fun st => k st q.2.1 q.2.2 else none
def am_acp (st : List am_V) (k : List am_V → am_M → Option am_R) (σ : am_M) : Option am_R :=
  am_i1 st fun z st => am_i1 st fun dp st => am_v1 st fun u b st => am_i1 st fun sp st => am_v1 st fun t a st =>
    bif Nat.beq t u && (Nat.beq t 11 || Nat.beq t 12) && Nat.ble (am_cat st) 8 then
      am_a a sp b dp z (am_m (am_cp σ a.toNat sp.toNat b.toNat dp.toNat z.toNat) fun σ => k st σ) else none
/-- Math.min, Math.max -/
def am_mn (a b : Int) : Int := if b < a then b else a
def am_mx (a b : Int) : Int := if a < b then b else a
def am_mth (y : Nat) (st : List am_V) (k : List am_V → Option am_R) : Option am_R :=
  bif Nat.beq y 0 then am_ii st fun a b st => bif Nat.ble (am_cat st) 8 then k ((0, am_mn a b) :: st) else none
  else bif Nat.beq y 1 then am_ii st fun a b st => bif Nat.ble (am_cat st) 8 then k ((0, am_mx a b) :: st) else none
  else bif Nat.beq y 2 then am_ll st fun a b st => bif Nat.ble (am_cat st) 8 then k ((1, am_mn a b) :: st) else none
  else am_ll st fun a b st => bif Nat.ble (am_cat st) 8 then k ((1, am_mx a b) :: st) else none
def am_getf (md : Bool) (x : Nat × Nat × Nat × Nat) (st : List am_V) (k : List am_V → Option am_R) (σ : am_M) : Option am_R := am_v1 st fun t r st =>
  bif Nat.beq t 16 then (bif Nat.beq x.1 16 then (bif Nat.beq x.2.1 0 then k ((23, r - 900) :: st) else k ((0, 0) :: st)) else none)
  else bif Nat.beq t (100 + x.1) then am_if (¬ r < 0) (bif md && Nat.beq x.2.2.2 1 then k ((x.2.2.1, am_fin r.toNat x.2.1) :: st) else k ((x.2.2.1, σ r.toNat x.2.1) :: st)) else none
def am_putf (md : Bool) (x : Nat × Nat × Nat × Nat) (st : List am_V) (k : List am_V → am_M → Option am_R) (σ : am_M) : Option am_R := am_v1 st fun u v st => am_v1 st fun t r st =>
  bif Nat.beq t (100 + x.1) && Nat.beq u x.2.2.1 && !(md && Nat.beq x.2.2.2 1) then
    am_if (¬ r < 0) (bif Nat.beq x.2.2.2 2 then am_if (v = 0 ∨ v = 1) (am_m (am_wr σ r.toNat x.2.1 v) fun σ => k st σ) else am_m (am_wr σ r.toNat x.2.1 v) fun σ => k st σ) else none
def am_lit (x : Nat × Nat × Nat × Nat) (k : Nat → Int → Option am_R) : Option am_R := bif Nat.beq x.2.2.1 1 then k x.1 (-(x.2.1 : Int)) else k x.1 (x.2.1 : Int)
def am_ret (st : List am_V) (x : Option am_R) : Option am_R := match st with
  | [] => x
  | _ :: _ => none
def am_zr (rk : Nat) (z : Int) (x : Option am_R) : Option am_R := bif Nat.beq rk 0 then x else bif Nat.beq rk 2 then am_if (z = 0 ∨ z = 1) x else bif Nat.beq rk 3 then am_if (0 ≤ z ∧ z < 65536) x else bif Nat.beq rk 4 then am_if (-128 ≤ z ∧ z < 128) x else none
/-- one instruction: md false while the objects are made, true behind -/
def am_ins (md : Bool) (y : Nat) (call : am_C) (k : am_S → Option am_R) (i : Instr) (nx : Nat) (x : Nat × Nat × Nat × Nat) (pc : Nat) (ls st : List am_V) (σ : am_M) (n : Nat) : Option am_R :=
  match i with
  | .aload j => am_ld ls j fun t z => bif Nat.ble 10 t then k (nx, ls, (t, z) :: st, σ, n) else none
  | .aload_n j => am_ld ls j.val fun t z => bif Nat.ble 10 t then k (nx, ls, (t, z) :: st, σ, n) else none
  | .iload j => am_ld ls j fun t z => bif Nat.beq t 0 then k (nx, ls, (t, z) :: st, σ, n) else none
  | .iload_n j => am_ld ls j.val fun t z => bif Nat.beq t 0 then k (nx, ls, (t, z) :: st, σ, n) else none
  | .lload j => am_ld ls j fun t z => bif Nat.beq t 1 then k (nx, ls, (t, z) :: st, σ, n) else none
  | .lload_n j => am_ld ls j.val fun t z => bif Nat.beq t 1 then k (nx, ls, (t, z) :: st, σ, n) else none
  | .astore j => am_v1 st fun t z st => bif Nat.ble 10 t then am_s1 ls j (t, z) fun ls => k (nx, ls, st, σ, n) else none
  | .istore j => am_i1 st fun z st => am_s1 ls j (0, z) fun ls => k (nx, ls, st, σ, n)
  | .lstore j => am_l1 st fun z st => am_s2 ls j (1, z) fun ls => k (nx, ls, st, σ, n)
  | .astore_n j => am_v1 st fun t z st => bif Nat.ble 10 t then am_s1 ls j.val (t, z) fun ls => k (nx, ls, st, σ, n) else none
  | .istore_n j => am_i1 st fun z st => am_s1 ls j.val (0, z) fun ls => k (nx, ls, st, σ, n)
  | .lstore_n j => am_l1 st fun z st => am_s2 ls j.val (1, z) fun ls => k (nx, ls, st, σ, n)
  | .iinc j c => am_ld ls j fun t z => bif Nat.beq t 0 then am_s1 ls j (0, am_w (z + c)) fun ls => k (nx, ls, st, σ, n) else none
  | .iconst z => bif am_in 128 z then k (nx, ls, (0, z) :: st, σ, n) else none
  | .bipush z => bif am_in 128 z then k (nx, ls, (0, z) :: st, σ, n) else none
  | .sipush z => bif am_in 32768 z then k (nx, ls, (0, z) :: st, σ, n) else none
  | .lconst z => k (nx, ls, (1, (z.val : Int)) :: st, σ, n)
  | .aconst_null => bif Nat.ble 100 x.1 then k (nx, ls, (x.1, -1) :: st, σ, n) else none
  | .ldc _ => am_lit x fun t z => k (nx, ls, (t, z) :: st, σ, n)
  | .ldc_w _ => am_lit x fun t z => k (nx, ls, (t, z) :: st, σ, n)
  | .ldc2_w _ => am_lit x fun t z => k (nx, ls, (t, z) :: st, σ, n)
  | .getstatic _ => am_lit x fun t z => k (nx, ls, (t, z) :: st, σ, n)
  | .iadd => am_ii st fun a b st => k (nx, ls, (0, am_w (a + b)) :: st, σ, n)
  | .isub => am_ii st fun a b st => k (nx, ls, (0, am_w (a - b)) :: st, σ, n)
  | .imul => am_ii st fun a b st => k (nx, ls, (0, am_w (a * b)) :: st, σ, n)
  | .iand => am_ii st fun a b st => k (nx, ls, (0, am_and a b) :: st, σ, n)
  | .ior => am_ii st fun a b st => k (nx, ls, (0, am_or a b) :: st, σ, n)
  | .ixor => am_ii st fun a b st => k (nx, ls, (0, am_xor a b) :: st, σ, n)
  | .ishl => am_ii st fun a b st => k (nx, ls, (0, am_shl a b) :: st, σ, n)
  | .ishr => am_ii st fun a b st => k (nx, ls, (0, am_shr a b) :: st, σ, n)
  | .iushr => am_ii st fun a b st => k (nx, ls, (0, am_ushr a b) :: st, σ, n)
  | .idiv => am_ii st fun a b st => am_if (¬ b = 0) (k (nx, ls, (0, am_w (Int.tdiv a b)) :: st, σ, n))
  | .irem => am_ii st fun a b st => am_if (¬ b = 0) (k (nx, ls, (0, Int.tmod a b) :: st, σ, n))
  | .ineg => am_i1 st fun a st => k (nx, ls, (0, am_w (-a)) :: st, σ, n)
  | .ladd => am_ll st fun a b st => k (nx, ls, (1, am_x (a + b)) :: st, σ, n)
  | .lsub => am_ll st fun a b st => k (nx, ls, (1, am_x (a - b)) :: st, σ, n)
  | .lmul => am_ll st fun a b st => k (nx, ls, (1, am_x (a * b)) :: st, σ, n)
  | .land => am_ll st fun a b st => k (nx, ls, (1, am_land a b) :: st, σ, n)
  | .lor => am_ll st fun a b st => k (nx, ls, (1, am_lor a b) :: st, σ, n)
  | .lxor => am_ll st fun a b st => k (nx, ls, (1, am_lxor a b) :: st, σ, n)
  | .ldiv => am_ll st fun a b st => am_if (¬ b = 0) (k (nx, ls, (1, am_x (Int.tdiv a b)) :: st, σ, n))
  | .lneg => am_l1 st fun a st => k (nx, ls, (1, am_x (-a)) :: st, σ, n)
  | .lshl => am_li st fun a b st => k (nx, ls, (1, am_lshl a b) :: st, σ, n)
  | .lshr => am_li st fun a b st => k (nx, ls, (1, am_lshr a b) :: st, σ, n)
  | .lushr => am_li st fun a b st => k (nx, ls, (1, am_lushr a b) :: st, σ, n)
  | .lcmp => am_ll st fun a b st => k (nx, ls, (0, am_cmp a b) :: st, σ, n)
  | .i2l => am_i1 st fun a st => k (nx, ls, (1, a) :: st, σ, n)
  | .l2i => am_l1 st fun a st => k (nx, ls, (0, am_w a) :: st, σ, n)
  | .i2b => am_i1 st fun a st => k (nx, ls, (0, am_w8 a) :: st, σ, n)
  | .i2s => am_i1 st fun a st => k (nx, ls, (0, am_w16 a) :: st, σ, n)
  | .i2c => am_i1 st fun a st => k (nx, ls, (0, a % 65536) :: st, σ, n)
  | .dup => am_v1 st fun t z st => bif Nat.beq t 1 then none else k (nx, ls, (t, z) :: (t, z) :: st, σ, n)
  | .dup2 => am_v1 st fun t z st => am_v1 st fun u w st => bif Nat.beq t 1 || Nat.beq u 1 then none else k (nx, ls, (t, z) :: (u, w) :: (t, z) :: (u, w) :: st, σ, n)
  | .pop => am_v1 st fun t _ st => bif Nat.beq t 1 then none else k (nx, ls, st, σ, n)
  | .pop2 => am_l1 st fun _ st => k (nx, ls, st, σ, n)
  | .goto _ => k (x.1, ls, st, σ, n)
  | .ifCond c _ => am_i1 st fun a st => am_cond c a 0 (k (x.1, ls, st, σ, n)) (k (nx, ls, st, σ, n))
  | .if_icmp c _ => am_ii st fun a b st => am_cond c a b (k (x.1, ls, st, σ, n)) (k (nx, ls, st, σ, n))
  | .ifnonnull _ => am_v1 st fun t z st => bif Nat.ble 100 t then (if z < 0 then k (nx, ls, st, σ, n) else k (x.1, ls, st, σ, n)) else none
  | .tableswitch o lo _ os => am_i1 st fun a st => am_sw a (am_jmp pc o (fun t => k (t, ls, st, σ, n))) (am_tsw pc (fun t => k (t, ls, st, σ, n)) lo os.toList)
  | .lookupswitch o ps => am_i1 st fun a st => am_sw a (am_jmp pc o (fun t => k (t, ls, st, σ, n))) (am_lsw pc (fun t => k (t, ls, st, σ, n)) ps.toList)
  | .getfield _ => am_getf md x st (fun st => k (nx, ls, st, σ, n)) σ
  | .putfield _ => am_putf md x st (fun st σ => k (nx, ls, st, σ, n)) σ
  | .iaload => am_i1 st fun j st => am_v1 st fun t r st => bif Nat.beq t 11 then am_ix r j (k (nx, ls, (0, σ r.toNat j.toNat) :: st, σ, n))
      else bif Nat.beq t 21 then am_cx r j (k (nx, ls, (0, am_kc r.toNat j.toNat) :: st, σ, n)) else none
  | .laload => am_i1 st fun j st => am_v1 st fun t r st => bif Nat.beq t 12 then am_ix r j (k (nx, ls, (1, σ r.toNat j.toNat) :: st, σ, n)) else none
  | .baload => am_i1 st fun j st => am_v1 st fun t r st => bif Nat.beq t 13 || Nat.beq t 14 then am_ix r j (k (nx, ls, (0, σ r.toNat j.toNat) :: st, σ, n))
      else bif Nat.beq t 23 then am_cx r j (k (nx, ls, (0, am_kc r.toNat j.toNat) :: st, σ, n)) else none
  | .aaload => am_i1 st fun j st => am_v1 st fun t r st => bif Nat.beq t 15 then am_ix r j (bif md then k (nx, ls, (106, am_fin r.toNat j.toNat) :: st, σ, n) else k (nx, ls, (106, σ r.toNat j.toNat) :: st, σ, n)) else none
  | .iastore => am_i1 st fun v st => am_i1 st fun j st => am_v1 st fun t r st => bif Nat.beq t 11 then am_ix r j (am_m (am_wr σ r.toNat j.toNat v) fun σ => k (nx, ls, st, σ, n)) else none
  | .lastore => am_l1 st fun v st => am_i1 st fun j st => am_v1 st fun t r st => bif Nat.beq t 12 then am_ix r j (am_m (am_wr σ r.toNat j.toNat v) fun σ => k (nx, ls, st, σ, n)) else none
  | .bastore => am_i1 st fun v st => am_i1 st fun j st => am_v1 st fun t r st => bif Nat.beq t 13 then am_ix r j (am_m (am_wr σ r.toNat j.toNat (am_w8 v)) fun σ => k (nx, ls, st, σ, n))
      else bif Nat.beq t 14 then am_ix r j (am_m (am_wr σ r.toNat j.toNat (v % 2)) fun σ => k (nx, ls, st, σ, n)) else none
  | .aastore => am_v1 st fun u v st => am_i1 st fun j st => am_v1 st fun t r st => bif !md && (Nat.beq u 106 && Nat.beq t 15) then am_if (¬ v < 0) (am_ix r j (am_m (am_wr σ r.toNat j.toNat v) fun σ => k (nx, ls, st, σ, n))) else none
  | .arraylength => am_v1 st fun t r st => bif Nat.beq t 11 || (Nat.beq t 12 || (Nat.beq t 13 || (Nat.beq t 14 || Nat.beq t 15))) then am_if (¬ r < 0) (k (nx, ls, (0, (am_len r.toNat : Int)) :: st, σ, n))
      else bif Nat.beq t 21 || Nat.beq t 23 then k (nx, ls, (0, (am_len r.toNat : Int)) :: st, σ, n) else none
  | .new _ => bif !md && Nat.beq (am_tag n) (100 + x.1) then am_m (am_new σ n) fun σ => k (nx, ls, (100 + x.1, (n : Int)) :: st, σ, n + 1) else none
  | .newarray _ => am_i1 st fun j st => bif Nat.beq (am_tag n) x.1 then am_if (j = am_len n) (am_m (am_new σ n) fun σ => k (nx, ls, (x.1, (n : Int)) :: st, σ, n + 1)) else none
  | .anewarray _ => am_i1 st fun j st => bif !md && Nat.beq (am_tag n) 15 then am_if (j = am_len n) (am_m (am_new σ n) fun σ => k (nx, ls, (15, (n : Int)) :: st, σ, n + 1)) else none
  | .invokevirtual _ => am_do call x.1 x.2.1 x.2.2.2 (fun t => Nat.beq t x.2.2.1) st (fun st σ n => k (nx, ls, st, σ, n)) σ n
  | .invokestatic _ => bif Nat.beq x.2.2.1 6 then am_acp st (fun st σ => k (nx, ls, st, σ, n)) σ
      else bif Nat.beq x.2.2.1 7 then am_mth x.1 st (fun st => k (nx, ls, st, σ, n))
      else am_doS call x.1 x.2.1 x.2.2.2 st (fun st σ n => k (nx, ls, st, σ, n)) σ n
  | .invokespecial _ => bif Nat.beq x.2.2.1 5 then am_v1 st fun t r st => bif Nat.ble 100 t && Nat.ble (am_cat st) 8 then am_if (¬ r < 0) (k (nx, ls, st, σ, n)) else none
      else am_do call x.1 x.2.1 9 (fun t => Nat.beq t x.2.2.2) st (fun st σ n => k (nx, ls, st, σ, n)) σ n
  | .ireturn => am_i1 st fun z st => am_ret st (am_zr (am_rk y) z (some (z, σ, n)))
  | .lreturn => am_l1 st fun z st => am_ret st (bif Nat.beq (am_rk y) 1 then some (z, σ, n) else none)
  | .areturn => am_v1 st fun t z st => am_ret st (bif Nat.beq t 16 && Nat.beq (am_rk y) 16 then some (z, σ, n) else none)
  | .return_ => am_ret st (bif Nat.beq (am_rk y) 9 then some (0, σ, n) else none)
  | _ => none
def am_live (b : Option (List Bool)) (ls : List am_V) (k : List am_V → Option am_R) : Option am_R := match b with
  | none => k ls
  | some b => am_mask b ls k
def am_stp (md : Bool) (y : Nat) (call : am_C) (k : am_S → Option am_R) (e : am_E) (S : am_S) : Option am_R := am_live e.2.2.2 S.2.1 fun ls => am_ins md y call k e.1 e.2.1 e.2.2.1 S.1 ls S.2.2.1 S.2.2.2.1 S.2.2.2.2
def am_step (md : Bool) (y : Nat) (call : am_C) (k : am_S → Option am_R) (S : am_S) : Option am_R := match am_code y S.1 with
  | some e => am_stp md y call k e S
  | none => none
def am_fits : Nat → List am_V → Bool
  | _, [] => true
  | 0, _ :: _ => false
  | k + 1, _ :: r => am_fits k r
/-- where a method begins; with arguments that it has no locals for: nowhere -/
def am_entry (y : Nat) (as : List am_V) (σ : am_M) (n : Nat) : am_S := (bif am_fits (am_ml y) (am_spread as) then 0 else 100000, am_pad (am_ml y) (am_spread as), [], σ, n)
def am_ex (md : Bool) : Nat → Nat → Nat → am_S → Option am_R
  | 0, _, _, _ => none
  | f + 1, d, y, S => am_step md y (fun y' as σ n => match d with
      | 0 => none
      | d + 1 => am_ex md f d y' (am_entry y' as σ n)) (am_ex md f d y) S
