/-! numbers: the machine's ints and longs as Ints -/
def am_r32 (z : Int) : Prop := -2147483648 ≤ z ∧ z < 2147483648
def am_r64 (z : Int) : Prop := -9223372036854775808 ≤ z ∧ z < 9223372036854775808
theorem am_w_r (z : Int) : am_r32 (am_w z) := by
  unfold am_w am_r32 Int.bmod
  dsimp only
  split <;> omega
theorem am_x_r (z : Int) : am_r64 (am_x z) := by
  unfold am_x am_r64 Int.bmod
  dsimp only
  split <;> omega
theorem am_w_id {z : Int} (h : am_r32 z) : am_w z = z := by
  obtain ⟨h1, h2⟩ := h
  unfold am_w Int.bmod
  dsimp only
  split <;> omega
theorem am_x_id {z : Int} (h : am_r64 z) : am_x z = z := by
  obtain ⟨h1, h2⟩ := h
  unfold am_x Int.bmod
  dsimp only
  split <;> omega
theorem am_i_of (z : Int) : (Int32.ofInt z).toInt = am_w z := by
  rw [Int32.toInt_ofInt]; rfl
theorem am_l_of (z : Int) : (Int64.ofInt z).toInt = am_x z := by
  rw [Int64.toInt_ofInt]; rfl
theorem am_i_to {z : Int} (h : am_r32 z) : (Int32.ofInt z).toInt = z := by rw [am_i_of, am_w_id h]
theorem am_l_to {z : Int} (h : am_r64 z) : (Int64.ofInt z).toInt = z := by rw [am_l_of, am_x_id h]
theorem am_i_eq {x : Int32} {z : Int} (h : x.toInt = z) : x = Int32.ofInt z := by rw [← h]; exact (Int32.ofInt_toInt x).symm
theorem am_l_eq {x : Int64} {z : Int} (h : x.toInt = z) : x = Int64.ofInt z := by rw [← h]; exact (Int64.ofInt_toInt x).symm
theorem am_i_w (z : Int) : Int32.ofInt (am_w z) = Int32.ofInt z := by
  apply Int32.toInt_inj.mp
  rw [am_i_of, am_i_of, am_w_id (am_w_r z)]
theorem am_i_r (x : Int32) : am_r32 x.toInt := ⟨Int32.le_toInt x, Int32.toInt_lt x⟩
theorem am_l_r (x : Int64) : am_r64 x.toInt := ⟨Int64.le_toInt x, Int64.toInt_lt x⟩
theorem am_i_add {a b : Int} (ha : am_r32 a) (hb : am_r32 b) : Int32.ofInt a + Int32.ofInt b = Int32.ofInt (am_w (a + b)) := am_i_eq (by rw [Int32.toInt_add, am_i_to ha, am_i_to hb]; rfl)
theorem am_i_sub {a b : Int} (ha : am_r32 a) (hb : am_r32 b) : Int32.ofInt a - Int32.ofInt b = Int32.ofInt (am_w (a - b)) := am_i_eq (by rw [Int32.toInt_sub, am_i_to ha, am_i_to hb]; rfl)
theorem am_i_mul {a b : Int} (ha : am_r32 a) (hb : am_r32 b) : Int32.ofInt a * Int32.ofInt b = Int32.ofInt (am_w (a * b)) := am_i_eq (by rw [Int32.toInt_mul, am_i_to ha, am_i_to hb]; rfl)
theorem am_i_neg {a : Int} (ha : am_r32 a) : -Int32.ofInt a = Int32.ofInt (am_w (-a)) := am_i_eq (by rw [Int32.toInt_neg, am_i_to ha]; rfl)
theorem am_i_div {a b : Int} (ha : am_r32 a) (hb : am_r32 b) : Int32.ofInt a / Int32.ofInt b = Int32.ofInt (am_w (Int.tdiv a b)) := am_i_eq (by rw [Int32.toInt_div, am_i_to ha, am_i_to hb]; rfl)
theorem am_l_add {a b : Int} (ha : am_r64 a) (hb : am_r64 b) : Int64.ofInt a + Int64.ofInt b = Int64.ofInt (am_x (a + b)) := am_l_eq (by rw [Int64.toInt_add, am_l_to ha, am_l_to hb]; rfl)
theorem am_l_sub {a b : Int} (ha : am_r64 a) (hb : am_r64 b) : Int64.ofInt a - Int64.ofInt b = Int64.ofInt (am_x (a - b)) := am_l_eq (by rw [Int64.toInt_sub, am_l_to ha, am_l_to hb]; rfl)
theorem am_l_mul {a b : Int} (ha : am_r64 a) (hb : am_r64 b) : Int64.ofInt a * Int64.ofInt b = Int64.ofInt (am_x (a * b)) := am_l_eq (by rw [Int64.toInt_mul, am_l_to ha, am_l_to hb]; rfl)
theorem am_l_neg {a : Int} (ha : am_r64 a) : -Int64.ofInt a = Int64.ofInt (am_x (-a)) := am_l_eq (by rw [Int64.toInt_neg, am_l_to ha]; rfl)
theorem am_l_div {a b : Int} (ha : am_r64 a) (hb : am_r64 b) : Int64.ofInt a / Int64.ofInt b = Int64.ofInt (am_x (Int.tdiv a b)) := am_l_eq (by rw [Int64.toInt_div, am_l_to ha, am_l_to hb]; rfl)
theorem am_tmod_r {a b : Int} (ha : am_r32 a) : am_r32 (Int.tmod a b) := by
  obtain ⟨h1, h2⟩ := ha
  unfold am_r32
  have h4 : (Int.tmod a b).natAbs ≤ a.natAbs := by
    rw [Int.natAbs_tmod]
    exact Nat.mod_le _ _
  rcases Int.le_total 0 a with h | h
  · have h3 := Int.tmod_nonneg b h
    omega
  · have e : Int.tmod a b = -Int.tmod (-a) b := by rw [Int.neg_tmod]; omega
    have h3 := Int.tmod_nonneg b (show 0 ≤ -a by omega)
    omega
theorem am_w_cong {a b : Int} (h : a % 4294967296 = b % 4294967296) : am_w a = am_w b := by
  unfold am_w Int.bmod
  dsimp only
  have e : ((4294967296 : Nat) : Int) = 4294967296 := rfl
  rw [e, h]
theorem am_w_mod (a : Int) : am_w a % 4294967296 = a % 4294967296 := by
  unfold am_w Int.bmod
  dsimp only
  split <;> omega
theorem am_i_rem {a b : Int} (ha : am_r32 a) (hb : am_r32 b) : Int32.ofInt a - Int32.ofInt a / Int32.ofInt b * Int32.ofInt b = Int32.ofInt (Int.tmod a b) := by
  rw [am_i_div ha hb, am_i_mul (am_w_r _) hb, am_i_sub ha (am_w_r _)]
  congr 1
  rw [← am_w_id (am_tmod_r (b := b) ha)]
  refine am_w_cong ?_
  have e1 := am_w_mod (am_w (Int.tdiv a b) * b)
  have e2 := am_w_mod (Int.tdiv a b)
  have e3 := Int.tmod_add_tdiv_mul a b
  have e4 : am_w (Int.tdiv a b) * b % 4294967296 = Int.tdiv a b * b % 4294967296 := by
    rw [Int.mul_emod, e2, ← Int.mul_emod]
  omega
theorem am_i_bv (z : Int) : (Int32.ofInt z).toBitVec = BitVec.ofInt 32 z := rfl
theorem am_l_bv (z : Int) : (Int64.ofInt z).toBitVec = BitVec.ofInt 64 z := rfl
theorem am_i_and (a b : Int) : Int32.ofInt a &&& Int32.ofInt b = Int32.ofInt (am_and a b) := am_i_eq rfl
theorem am_i_or (a b : Int) : Int32.ofInt a ||| Int32.ofInt b = Int32.ofInt (am_or a b) := am_i_eq rfl
theorem am_i_xor (a b : Int) : Int32.ofInt a ^^^ Int32.ofInt b = Int32.ofInt (am_xor a b) := am_i_eq rfl
theorem am_l_and (a b : Int) : Int64.ofInt a &&& Int64.ofInt b = Int64.ofInt (am_land a b) := am_l_eq rfl
theorem am_l_or (a b : Int) : Int64.ofInt a ||| Int64.ofInt b = Int64.ofInt (am_lor a b) := am_l_eq rfl
theorem am_l_xor (a b : Int) : Int64.ofInt a ^^^ Int64.ofInt b = Int64.ofInt (am_lxor a b) := am_l_eq rfl
theorem am_bv32 (x : BitVec 32) : am_r32 x.toInt := by
  have h1 := BitVec.two_mul_toInt_lt (x := x)
  have h2 := BitVec.le_two_mul_toInt (x := x)
  unfold am_r32
  omega
theorem am_bv64 (x : BitVec 64) : am_r64 x.toInt := by
  have h1 := BitVec.two_mul_toInt_lt (x := x)
  have h2 := BitVec.le_two_mul_toInt (x := x)
  unfold am_r64
  omega
theorem am_bv_w (x : BitVec 32) (z : Int) (h : (x.toNat : Int) = z % 4294967296) : x.toInt = am_w z := by
  rw [BitVec.toInt_eq_toNat_bmod]
  show am_w (x.toNat : Int) = am_w z
  refine am_w_cong ?_
  rw [h]
  omega
theorem am_x_cong {a b : Int} (h : a % 18446744073709551616 = b % 18446744073709551616) : am_x a = am_x b := by
  unfold am_x Int.bmod
  dsimp only
  have e : ((18446744073709551616 : Nat) : Int) = 18446744073709551616 := rfl
  rw [e, h]
theorem am_bv_x (x : BitVec 64) (z : Int) (h : (x.toNat : Int) = z % 18446744073709551616) : x.toInt = am_x z := by
  rw [BitVec.toInt_eq_toNat_bmod]
  show am_x (x.toNat : Int) = am_x z
  refine am_x_cong ?_
  rw [h]
  omega
theorem am_i_tn (z : Int) : (((Int32.ofInt z).toBitVec.toNat : Nat) : Int) = z % 4294967296 := by
  rw [am_i_bv, BitVec.toNat_ofInt]
  have : (0 : Int) ≤ z % ((2 ^ 32 : Nat) : Int) := Int.emod_nonneg _ (by decide)
  rw [Int.toNat_of_nonneg this]
  rfl
theorem am_l_tn (z : Int) : (((Int64.ofInt z).toBitVec.toNat : Nat) : Int) = z % 18446744073709551616 := by
  rw [am_l_bv, BitVec.toNat_ofInt]
  have : (0 : Int) ≤ z % ((2 ^ 64 : Nat) : Int) := Int.emod_nonneg _ (by decide)
  rw [Int.toNat_of_nonneg this]
  rfl
theorem am_sm32 : ∀ j, j < 32 → ((nI j).toBitVec.smod 32).toNat = j := by decide +kernel
theorem am_su32 : ∀ j, j < 32 → (((nI j).toUInt32 &&& Int32.toUInt32 31).toBitVec % 32).toNat = j := by decide +kernel
theorem am_m31 (b : Int) : Int32.ofInt b &&& 31 = nI (b % 32).toNat ∧ (b % 32).toNat < 32 := by
  have h := pk_and (Int32.ofInt b) (m := 31) 5 (by decide)
  have e := am_i_tn b
  rw [h]
  refine ⟨congrArg nI ?_, by omega⟩
  omega
theorem am_i_shl (a b : Int) : Int32.ofInt a <<< (Int32.ofInt b &&& 31) = Int32.ofInt (am_shl a b) := by
  obtain ⟨e, hb⟩ := am_m31 b
  rw [e]
  refine am_i_eq ?_
  have h := pk_shl (Int32.ofInt a) (nI (b % 32).toNat) (b % 32).toNat (am_sm32 _ hb)
  refine am_bv_w _ _ ?_
  rw [h]
  have e2 := am_i_tn a
  rw [Int.natCast_emod, Int.natCast_mul, e2, Int.natCast_pow, Int.natCast_pow]
  show a % 4294967296 * 2 ^ (b % 32).toNat % 4294967296 = _
  rw [Int.mul_emod, Int.emod_emod, ← Int.mul_emod]
theorem am_i_shr {a : Int} (ha : am_r32 a) (b : Int) : Int32.ofInt a >>> (Int32.ofInt b &&& 31) = Int32.ofInt (am_shr a b) := by
  obtain ⟨e, hb⟩ := am_m31 b
  rw [e]
  refine am_i_eq ?_
  rw [pk_shr (Int32.ofInt a) (nI (b % 32).toNat) (b % 32).toNat (am_sm32 _ hb), am_i_to ha, Int.shiftRight_eq_div_pow]
  show a / ((2 ^ (b % 32).toNat : Nat) : Int) = am_shr a b
  unfold am_shr
  rw [Int.natCast_pow]
  rfl
theorem am_uc31 (b : Int) : (((Int32.ofInt b).toUInt32 &&& Int32.toUInt32 31).toBitVec % 32).toNat = (b % 32).toNat := by
  have e := am_i_tn b
  show (((Int32.ofInt b).toBitVec &&& 31#32) % 32#32).toNat = _
  rw [BitVec.toNat_umod, BitVec.toNat_and]
  show ((Int32.ofInt b).toBitVec.toNat &&& (2 ^ 5 - 1)) % 32 = _
  rw [Nat.and_two_pow_sub_one_eq_mod]
  omega
theorem am_i_ushr (a b : Int) : ((Int32.ofInt a).toUInt32 >>> ((Int32.ofInt b).toUInt32 &&& Int32.toUInt32 31)).toInt32 = Int32.ofInt (am_ushr a b) := by
  refine am_i_eq (am_bv_w _ _ ?_)
  rw [pk_ushr (Int32.ofInt a) (Int32.ofInt b) _ (am_uc31 b), Int.natCast_ediv, am_i_tn a, Int.natCast_pow]
  show a % 4294967296 / 2 ^ (b % 32).toNat = a % 4294967296 / 2 ^ (b % 32).toNat % 4294967296
  refine (Int.emod_eq_of_lt (Int.ediv_nonneg (by omega) (Int.le_of_lt (Int.pow_pos (by decide)))) ?_).symm
  exact Int.lt_of_le_of_lt (Int.ediv_le_self _ (by omega)) (by omega)
theorem am_i2l {a : Int} (ha : am_r32 a) : (Int32.ofInt a).toInt64 = Int64.ofInt a := am_l_eq (by rw [Int32.toInt_toInt64, am_i_to ha])
theorem am_l2i {a : Int} (ha : am_r64 a) : (Int64.ofInt a).toInt32 = Int32.ofInt (am_w a) := am_i_eq (by rw [Int64.toInt_toInt32, am_l_to ha]; rfl)
theorem am_i2b {a : Int} (ha : am_r32 a) : (Int32.ofInt a).toInt8.toInt32 = Int32.ofInt (am_w8 a) := am_i_eq (by rw [Int8.toInt_toInt32, Int32.toInt_toInt8, am_i_to ha]; rfl)
theorem am_i2s {a : Int} (ha : am_r32 a) : (Int32.ofInt a).toInt16.toInt32 = Int32.ofInt (am_w16 a) := am_i_eq (by rw [Int16.toInt_toInt32, Int32.toInt_toInt16, am_i_to ha]; rfl)
theorem am_w8_r (a : Int) : -128 ≤ am_w8 a ∧ am_w8 a < 128 := by
  unfold am_w8 Int.bmod
  dsimp only
  split <;> omega
theorem am_w16_r (a : Int) : -32768 ≤ am_w16 a ∧ am_w16 a < 32768 := by
  unfold am_w16 Int.bmod
  dsimp only
  split <;> omega
theorem am_smod64 : ∀ j, j < 64 → ((BitVec.ofNat 64 j).smod 64).toNat = j := by decide +kernel
theorem am_m63 {b : Int} (hb : am_r32 b) : (((Int32.ofInt b).toInt64 &&& 63).toBitVec.smod 64).toNat = (b % 64).toNat := by
  rw [am_i2l hb]
  have e := am_l_tn b
  have h : ((Int64.ofInt b) &&& 63).toBitVec = BitVec.ofNat 64 (b % 64).toNat := by
    apply BitVec.eq_of_toNat_eq
    show ((Int64.ofInt b).toBitVec &&& 63#64).toNat = _
    rw [BitVec.toNat_and]
    show (Int64.ofInt b).toBitVec.toNat &&& (2 ^ 6 - 1) = _
    rw [Nat.and_two_pow_sub_one_eq_mod, BitVec.toNat_ofNat]
    omega
  rw [h]
  exact am_smod64 _ (by omega)
theorem am_l_shl {a b : Int} (hb : am_r32 b) : Int64.ofInt a <<< ((Int32.ofInt b).toInt64 &&& 63) = Int64.ofInt (am_lshl a b) := by
  refine am_l_eq (am_bv_x _ _ ?_)
  show ((((Int64.ofInt a).toBitVec <<< (((Int32.ofInt b).toInt64 &&& 63).toBitVec.smod 64).toNat).toNat : Nat) : Int) = _
  rw [am_m63 hb, BitVec.toNat_shiftLeft, Nat.shiftLeft_eq]
  have e2 := am_l_tn a
  rw [Int.natCast_emod, Int.natCast_mul, e2, Int.natCast_pow, Int.natCast_pow]
  show a % 18446744073709551616 * 2 ^ (b % 64).toNat % 18446744073709551616 = _
  rw [Int.mul_emod, Int.emod_emod, ← Int.mul_emod]
theorem am_l_shr {a b : Int} (ha : am_r64 a) (hb : am_r32 b) : Int64.ofInt a >>> ((Int32.ofInt b).toInt64 &&& 63) = Int64.ofInt (am_lshr a b) := by
  refine am_l_eq ?_
  show ((Int64.ofInt a).toBitVec.sshiftRight (((Int32.ofInt b).toInt64 &&& 63).toBitVec.smod 64).toNat).toInt = _
  rw [am_m63 hb, BitVec.toInt_sshiftRight]
  show (Int64.ofInt a).toInt >>> (b % 64).toNat = _
  rw [am_l_to ha, Int.shiftRight_eq_div_pow]
  unfold am_lshr
  rw [Int.natCast_pow]
  rfl
theorem am_uc63 {b : Int} (hb : am_r32 b) : (((Int32.ofInt b).toInt64.toUInt64 &&& Int64.toUInt64 63).toBitVec % 64).toNat = (b % 64).toNat := by
  rw [am_i2l hb]
  have e := am_l_tn b
  show (((Int64.ofInt b).toBitVec &&& 63#64) % 64#64).toNat = _
  rw [BitVec.toNat_umod, BitVec.toNat_and]
  show ((Int64.ofInt b).toBitVec.toNat &&& (2 ^ 6 - 1)) % 64 = _
  rw [Nat.and_two_pow_sub_one_eq_mod]
  omega
theorem am_l_ushr {a b : Int} (hb : am_r32 b) : ((Int64.ofInt a).toUInt64 >>> ((Int32.ofInt b).toInt64.toUInt64 &&& Int64.toUInt64 63)).toInt64 = Int64.ofInt (am_lushr a b) := by
  refine am_l_eq (am_bv_x _ _ ?_)
  show ((((Int64.ofInt a).toBitVec >>> (((Int32.ofInt b).toInt64.toUInt64 &&& Int64.toUInt64 63).toBitVec % 64).toNat).toNat : Nat) : Int) = _
  rw [am_uc63 hb, BitVec.toNat_ushiftRight, Nat.shiftRight_eq_div_pow, Int.natCast_ediv, am_l_tn a, Int.natCast_pow]
  show a % 18446744073709551616 / 2 ^ (b % 64).toNat = a % 18446744073709551616 / 2 ^ (b % 64).toNat % 18446744073709551616
  refine (Int.emod_eq_of_lt (Int.ediv_nonneg (by omega) (Int.le_of_lt (Int.pow_pos (by decide)))) ?_).symm
  exact Int.lt_of_le_of_lt (Int.ediv_le_self _ (by omega)) (by omega)
theorem am_l_cmp {a b : Int} (ha : am_r64 a) (hb : am_r64 b) : lg_cmp (Int64.ofInt a) (Int64.ofInt b) = Int32.ofInt (am_cmp a b) := by
  unfold lg_cmp am_cmp
  simp only [gt_iff_lt, Int64.lt_iff_toInt_lt, ← Int64.toInt_inj, am_l_to ha, am_l_to hb]
  by_cases h1 : a < b
  · rw [if_neg (by omega), if_neg (by omega), if_pos h1]; rfl
  · by_cases h2 : a = b
    · rw [if_neg (by omega), if_pos h2, if_neg h1, if_pos h2]; rfl
    · rw [if_pos (by omega), if_neg h1, if_neg h2]; rfl
theorem am_i_lt {a b : Int} (ha : am_r32 a) (hb : am_r32 b) : Int32.ofInt a < Int32.ofInt b ↔ a < b := by rw [Int32.lt_iff_toInt_lt, am_i_to ha, am_i_to hb]
theorem am_i_le {a b : Int} (ha : am_r32 a) (hb : am_r32 b) : Int32.ofInt a ≤ Int32.ofInt b ↔ a ≤ b := by rw [Int32.le_iff_toInt_le, am_i_to ha, am_i_to hb]
theorem am_i_inj {a b : Int} (ha : am_r32 a) (hb : am_r32 b) : Int32.ofInt a = Int32.ofInt b ↔ a = b := by rw [← Int32.toInt_inj, am_i_to ha, am_i_to hb]
theorem am_l_lt {a b : Int} (ha : am_r64 a) (hb : am_r64 b) : Int64.ofInt a < Int64.ofInt b ↔ a < b := by rw [Int64.lt_iff_toInt_lt, am_l_to ha, am_l_to hb]
theorem am_i_cl {a : Int} (ha : am_r32 a) (h : 0 ≤ a) : (Int32.ofInt a).toNatClampNeg = a.toNat := by
  show (Int32.ofInt a).toInt.toNat = _
  rw [am_i_to ha]
theorem am_i_in {a : Int} {n : Nat} (ha : am_r32 a) (h : 0 ≤ a) (h2 : a < n) : vp_in (Int32.ofInt a) n := by
  rw [vp_in_iff, am_i_to ha]
  exact ⟨h, h2⟩
theorem am_sgn (x y : Int) : am_cmp x y < 0 ↔ x < y := by
  unfold am_cmp
  by_cases h1 : x < y
  · rw [if_pos h1]; omega
  · rw [if_neg h1]
    by_cases h2 : x = y
    · rw [if_pos h2]; omega
    · rw [if_neg h2]; omega
