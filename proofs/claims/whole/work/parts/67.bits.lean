/-! how many bits-/
theorem mx_and_256 (x y : Nat) : x &&& y = (x % 256 &&& y % 256) + 256 * (x / 256 &&& y / 256) := by
  have h1 : (x &&& y) % 2 ^ 8 = x % 2 ^ 8 &&& y % 2 ^ 8 := Nat.and_mod_two_pow
  have h2 : (x &&& y) / 2 ^ 8 = x / 2 ^ 8 &&& y / 2 ^ 8 := Nat.and_div_two_pow
  have h3 := Nat.div_add_mod (x &&& y) 256
  have e : (2 : Nat) ^ 8 = 256 := rfl
  rw [e] at h1 h2
  rw [← h3, h1, h2]
  omega
def mx_m8 (c : Nat) : Nat → Nat
  | 0 => 0
  | k + 1 => c + 256 * mx_m8 c k
def mx_y1 (k u : Nat) : Nat := u - (u / 2 &&& mx_m8 0x55 k)
def mx_y2 (k u : Nat) : Nat := (mx_y1 k u &&& mx_m8 0x33 k) + (mx_y1 k u / 4 &&& mx_m8 0x33 k)
def mx_y3 (k u : Nat) : Nat := (mx_y2 k u + mx_y2 k u / 16) &&& mx_m8 0x0f k
def mx_c1 (b : Nat) : Nat := b - (b / 2 &&& 0x55)
def mx_c2 (b : Nat) : Nat := (mx_c1 b &&& 0x33) + (mx_c1 b / 4 &&& 0x33)
def mx_c3 (b : Nat) : Nat := (mx_c2 b + mx_c2 b / 16) &&& 0x0f
theorem mx_t1 : ∀ b : Nat, b < 256 → ∀ r : Nat, r < 2 → (b / 2 + 128 * r) &&& 0x55 = b / 2 &&& 0x55 := by decide +kernel
theorem mx_t2 : ∀ b : Nat, b < 256 → ∀ r : Nat, r < 4 → (b / 4 + 64 * r) &&& 0x33 = b / 4 &&& 0x33 := by decide +kernel
theorem mx_t3 : ∀ e : Nat, e < 69 → ∀ r : Nat, r < 5 → (e + e / 16 + 16 * r) &&& 0x0f = (e + e / 16) &&& 0x0f := by decide +kernel
theorem mx_t4 : ∀ b : Nat, b < 256 → mx_c1 b < 256 ∧ mx_c2 b < 69 ∧ mx_c2 b % 16 < 5 ∧ mx_c3 b = b % 2 + b / 2 % 2 + b / 4 % 2 + b / 8 % 2 + b / 16 % 2 + b / 32 % 2 + b / 64 % 2 + b / 128 % 2 := by decide +kernel
theorem mx_y1_S (k b w : Nat) (hb : b < 256) : mx_y1 (k + 1) (b + 256 * w) = mx_c1 b + 256 * mx_y1 k w := by
  unfold mx_y1 mx_c1
  show b + 256 * w - ((b + 256 * w) / 2 &&& (0x55 + 256 * mx_m8 0x55 k)) = _
  rw [mx_and_256, show (b + 256 * w) / 2 % 256 = b / 2 + 128 * (w % 2) by omega, show (b + 256 * w) / 2 / 256 = w / 2 by omega, show (0x55 + 256 * mx_m8 0x55 k) % 256 = 0x55 by omega, show (0x55 + 256 * mx_m8 0x55 k) / 256 = mx_m8 0x55 k by omega, mx_t1 b hb _ (by omega)]
  have h1 : (b / 2 &&& 0x55) ≤ b / 2 := Nat.and_le_left
  have h2 : (w / 2 &&& mx_m8 0x55 k) ≤ w / 2 := Nat.and_le_left
  omega
theorem mx_y2_S (k b w : Nat) (hb : b < 256) : mx_y2 (k + 1) (b + 256 * w) = mx_c2 b + 256 * mx_y2 k w := by
  unfold mx_y2 mx_c2
  rw [mx_y1_S k b w hb]
  have hc := (mx_t4 b hb).1
  generalize mx_c1 b = c at *
  generalize mx_y1 k w = y
  show (c + 256 * y &&& (0x33 + 256 * mx_m8 0x33 k)) + ((c + 256 * y) / 4 &&& (0x33 + 256 * mx_m8 0x33 k)) = _
  rw [mx_and_256 (c + 256 * y), mx_and_256 ((c + 256 * y) / 4), show (c + 256 * y) % 256 = c by omega, show (c + 256 * y) / 256 = y by omega, show (c + 256 * y) / 4 % 256 = c / 4 + 64 * (y % 4) by omega, show (c + 256 * y) / 4 / 256 = y / 4 by omega,
    show (0x33 + 256 * mx_m8 0x33 k) % 256 = 0x33 by omega, show (0x33 + 256 * mx_m8 0x33 k) / 256 = mx_m8 0x33 k by omega, mx_t2 c hc _ (by omega)]
  omega
theorem mx_y2_16 (k u : Nat) : mx_y2 k u % 16 < 5 := by
  cases k with
  | zero =>
    unfold mx_y2
    show ((_ &&& 0) + (_ &&& 0)) % 16 < 5
    rw [Nat.and_zero, Nat.and_zero]
    decide
  | succ k =>
    have h := (mx_t4 (u % 256) (by omega)).2.2.1
    have e : u = u % 256 + 256 * (u / 256) := by omega
    rw [e, mx_y2_S k _ _ (by omega)]
    omega
theorem mx_y3_S (k b w : Nat) (hb : b < 256) : mx_y3 (k + 1) (b + 256 * w) = mx_c3 b + 256 * mx_y3 k w := by
  unfold mx_y3 mx_c3
  rw [mx_y2_S k b w hb]
  have hc := (mx_t4 b hb).2.1
  have hy := mx_y2_16 k w
  generalize mx_c2 b = c at *
  generalize mx_y2 k w = y at *
  show (c + 256 * y + (c + 256 * y) / 16 &&& (0x0f + 256 * mx_m8 0x0f k)) = _
  rw [mx_and_256, show (c + 256 * y + (c + 256 * y) / 16) % 256 = c + c / 16 + 16 * (y % 16) by omega, show (c + 256 * y + (c + 256 * y) / 16) / 256 = y + y / 16 by omega,
    show (0x0f + 256 * mx_m8 0x0f k) % 256 = 0x0f by omega, show (0x0f + 256 * mx_m8 0x0f k) / 256 = mx_m8 0x0f k by omega, mx_t3 c hc _ hy]
/-- bits of the first k bytes -/
def mx_pb : Nat → Nat → Nat
  | 0, _ => 0
  | k + 1, u => mx_c3 (u % 256) + mx_pb k (u / 256)
theorem mx_y3_8 (u : Nat) (hu : u < 18446744073709551616) : (mx_y3 8 u + mx_y3 8 u / 256 + (mx_y3 8 u + mx_y3 8 u / 256) / 65536 + (mx_y3 8 u + mx_y3 8 u / 256 + (mx_y3 8 u + mx_y3 8 u / 256) / 65536) / 4294967296) % 128 = mx_pb 8 u ∧ mx_pb 8 u ≤ 64 ∧ mx_y3 8 u < 1000000000000000000 := by
  have st : ∀ k v, mx_y3 (k + 1) v = mx_c3 (v % 256) + 256 * mx_y3 k (v / 256) := fun k v => by
    have := mx_y3_S k (v % 256) (v / 256) (by omega)
    rwa [show v % 256 + 256 * (v / 256) = v by omega] at this
  have le : ∀ v, mx_c3 (v % 256) ≤ 8 := fun v => by rw [(mx_t4 (v % 256) (by omega)).2.2.2]; omega
  have z : ∀ v, mx_y3 0 v = 0 := fun v => by unfold mx_y3; exact Nat.and_zero _
  rw [st, st, st, st, st, st, st, st, z]
  show _ = mx_c3 (u % 256) + (mx_c3 (u / 256 % 256) + (mx_c3 (u / 256 / 256 % 256) + (mx_c3 (u / 256 / 256 / 256 % 256) + (mx_c3 (u / 256 / 256 / 256 / 256 % 256) + (mx_c3 (u / 256 / 256 / 256 / 256 / 256 % 256) + (mx_c3 (u / 256 / 256 / 256 / 256 / 256 / 256 % 256) + (mx_c3 (u / 256 / 256 / 256 / 256 / 256 / 256 / 256 % 256) + 0))))))) ∧ mx_c3 (u % 256) + (mx_c3 (u / 256 % 256) + (mx_c3 (u / 256 / 256 % 256) + (mx_c3 (u / 256 / 256 / 256 % 256) + (mx_c3 (u / 256 / 256 / 256 / 256 % 256) + (mx_c3 (u / 256 / 256 / 256 / 256 / 256 % 256) + (mx_c3 (u / 256 / 256 / 256 / 256 / 256 / 256 % 256) + (mx_c3 (u / 256 / 256 / 256 / 256 / 256 / 256 / 256 % 256) + 0))))))) ≤ 64 ∧ _
  have a0 := le u
  have a1 := le (u / 256)
  have a2 := le (u / 256 / 256)
  have a3 := le (u / 256 / 256 / 256)
  have a4 := le (u / 256 / 256 / 256 / 256)
  have a5 := le (u / 256 / 256 / 256 / 256 / 256)
  have a6 := le (u / 256 / 256 / 256 / 256 / 256 / 256)
  have a7 := le (u / 256 / 256 / 256 / 256 / 256 / 256 / 256)
  generalize mx_c3 (u % 256) = p0 at *
  generalize mx_c3 (u / 256 % 256) = p1 at *
  generalize mx_c3 (u / 256 / 256 % 256) = p2 at *
  generalize mx_c3 (u / 256 / 256 / 256 % 256) = p3 at *
  generalize mx_c3 (u / 256 / 256 / 256 / 256 % 256) = p4 at *
  generalize mx_c3 (u / 256 / 256 / 256 / 256 / 256 % 256) = p5 at *
  generalize mx_c3 (u / 256 / 256 / 256 / 256 / 256 / 256 % 256) = p6 at *
  generalize mx_c3 (u / 256 / 256 / 256 / 256 / 256 / 256 / 256 % 256) = p7 at *
  have dX : (p0 + 256 * (p1 + 256 * (p2 + 256 * (p3 + 256 * (p4 + 256 * (p5 + 256 * (p6 + 256 * (p7 + 256 * 0)))))))) / 256 = p1 + 256 * (p2 + 256 * (p3 + 256 * (p4 + 256 * (p5 + 256 * (p6 + 256 * p7))))) := by omega
  rw [dX]
  have dY : p0 + 256 * (p1 + 256 * (p2 + 256 * (p3 + 256 * (p4 + 256 * (p5 + 256 * (p6 + 256 * (p7 + 256 * 0))))))) + (p1 + 256 * (p2 + 256 * (p3 + 256 * (p4 + 256 * (p5 + 256 * (p6 + 256 * p7)))))) = ((p0 + p1) + 256 * (p1 + p2)) + 65536 * ((p2 + p3) + 256 * (p3 + p4) + 65536 * ((p4 + p5) + 256 * (p5 + p6) + 65536 * ((p6 + p7) + 256 * p7))) := by omega
  rw [dY]
  have dZ : (((p0 + p1) + 256 * (p1 + p2)) + 65536 * ((p2 + p3) + 256 * (p3 + p4) + 65536 * ((p4 + p5) + 256 * (p5 + p6) + 65536 * ((p6 + p7) + 256 * p7)))) / 65536 = (p2 + p3) + 256 * (p3 + p4) + 65536 * ((p4 + p5) + 256 * (p5 + p6) + 65536 * ((p6 + p7) + 256 * p7)) := by omega
  rw [dZ]
  have dV : ((p0 + p1) + 256 * (p1 + p2)) + 65536 * ((p2 + p3) + 256 * (p3 + p4) + 65536 * ((p4 + p5) + 256 * (p5 + p6) + 65536 * ((p6 + p7) + 256 * p7))) + ((p2 + p3) + 256 * (p3 + p4) + 65536 * ((p4 + p5) + 256 * (p5 + p6) + 65536 * ((p6 + p7) + 256 * p7))) =
    ((p0 + p1 + (p2 + p3)) + 256 * (p1 + p2 + (p3 + p4)) + 65536 * (p2 + p3 + (p4 + p5)) + 16777216 * (p3 + p4 + (p5 + p6))) + 4294967296 * ((p4 + p5 + (p6 + p7)) + 256 * (p5 + p6 + p7) + 65536 * ((p6 + p7) + 256 * p7)) := by omega
  rw [dV]
  have dW : (((p0 + p1 + (p2 + p3)) + 256 * (p1 + p2 + (p3 + p4)) + 65536 * (p2 + p3 + (p4 + p5)) + 16777216 * (p3 + p4 + (p5 + p6))) + 4294967296 * ((p4 + p5 + (p6 + p7)) + 256 * (p5 + p6 + p7) + 65536 * ((p6 + p7) + 256 * p7))) / 4294967296 = (p4 + p5 + (p6 + p7)) + 256 * (p5 + p6 + p7) + 65536 * ((p6 + p7) + 256 * p7) := by omega
  rw [dW]
  clear dX dY dZ dV dW
  refine ⟨by omega, by omega, by omega⟩
/-! longs as numbers -/
def mx_u (v : Int) : Nat := (v % 18446744073709551616).toNat
theorem mx_u_lt (v : Int) : mx_u v < 18446744073709551616 := by unfold mx_u; omega
theorem mx_x_u (v : Int) : am_x v = am_x (mx_u v : Nat) := by
  unfold mx_u am_x Int.bmod
  dsimp only
  omega
theorem mx_u_x (k : Nat) (h : k < 18446744073709551616) : mx_u (am_x k) = k := by
  unfold mx_u am_x Int.bmod
  dsimp only
  omega
theorem mx_u_n (k : Nat) (h : k < 18446744073709551616) : mx_u (k : Int) = k := by
  unfold mx_u
  omega
theorem mx_land_u (a b : Int) : am_land a b = am_x ((mx_u a &&& mx_u b : Nat) : Int) := by
  have e : BitVec.ofInt 64 a &&& BitVec.ofInt 64 b = BitVec.ofNat 64 (mx_u a &&& mx_u b) := by
    apply BitVec.eq_of_toNat_eq
    rw [BitVec.toNat_and, BitVec.toNat_ofInt, BitVec.toNat_ofInt, BitVec.toNat_ofNat]
    have : (mx_u a &&& mx_u b) < 2 ^ 64 := Nat.and_lt_two_pow _ (mx_u_lt b)
    rw [Nat.mod_eq_of_lt this]
    rfl
  unfold am_land
  rw [e, ← BitVec.ofInt_natCast, BitVec.toInt_ofInt]
  rfl
theorem mx_lushr_u (a : Int) (s : Nat) (hs : s < 64) : am_lushr a s = am_x ((mx_u a / 2 ^ s : Nat) : Int) := by
  unfold am_lushr mx_u
  have : ((s : Int) % 64).toNat = s := by omega
  rw [this]
  congr 1
  rw [Int.natCast_ediv, Int.toNat_of_nonneg (by omega)]
  rfl
theorem mx_x_c {a b : Int} (h : a % 18446744073709551616 = b % 18446744073709551616) : am_x a = am_x b := by
  unfold am_x Int.bmod
  dsimp only
  omega
theorem mx_x_m (a : Int) : am_x a % 18446744073709551616 = a % 18446744073709551616 := by
  unfold am_x Int.bmod
  dsimp only
  omega
theorem mx_ar1 (v z : Int) (u A : Nat) (hu : (u : Int) = v % 18446744073709551616) (hA : A ≤ u) (hz : z % 18446744073709551616 = (A : Int) % 18446744073709551616) : (v - z) % 18446744073709551616 = ((u - A : Nat) : Int) % 18446744073709551616 := by omega
theorem mx_ar2 (x z : Int) (A B : Nat) (hx : x % 18446744073709551616 = (A : Int) % 18446744073709551616) (hz : z % 18446744073709551616 = (B : Int) % 18446744073709551616) : (x + z) % 18446744073709551616 = ((A + B : Nat) : Int) % 18446744073709551616 := by omega
theorem mx_u_i (v : Int) : (mx_u v : Int) = v % 18446744073709551616 := by unfold mx_u; omega
theorem mx_x_n (k : Nat) (h : k < 9000000000000000000) : am_x (k : Int) = k := mx_x_id (by omega) (by omega)
theorem mx_bc1 (v : Int) : am_x (v - am_land (am_lushr v 1) 6148914691236517205) = am_x ((mx_y1 8 (mx_u v) : Nat) : Int) := by
  have h1 : am_lushr v 1 = am_x ((mx_u v / 2 : Nat) : Int) := mx_lushr_u v 1 (by decide)
  have h5 : mx_u v / 2 < 18446744073709551616 := Nat.lt_of_le_of_lt (Nat.div_le_self _ _) (mx_u_lt v)
  rw [h1, mx_land_u, mx_u_x _ h5, show mx_u 6148914691236517205 = mx_m8 0x55 8 by decide +kernel]
  exact mx_x_c (mx_ar1 v _ (mx_u v) _ (mx_u_i v) (Nat.le_trans Nat.and_le_left (Nat.div_le_self _ _)) (mx_x_m _))
theorem mx_bc2 (y : Nat) (hy : y < 18446744073709551616) : am_x (am_land (am_x (y : Int)) 3689348814741910323 + am_land (am_lushr (am_x (y : Int)) 2) 3689348814741910323) = am_x (((y &&& mx_m8 0x33 8) + (y / 4 &&& mx_m8 0x33 8) : Nat) : Int) := by
  have h1 : am_lushr (am_x (y : Int)) 2 = am_x ((mx_u (am_x (y : Int)) / 4 : Nat) : Int) := mx_lushr_u _ 2 (by decide)
  have h5 : y / 4 < 18446744073709551616 := Nat.lt_of_le_of_lt (Nat.div_le_self _ _) hy
  rw [h1, mx_land_u, mx_land_u, mx_u_x _ hy, mx_u_x _ h5, show mx_u 3689348814741910323 = mx_m8 0x33 8 by decide +kernel]
  exact mx_x_c (mx_ar2 _ _ _ _ (mx_x_m _) (mx_x_m _))
theorem mx_bc3 (y : Nat) (hy : y < 8000000000000000000) : am_land (am_x (am_x (y : Int) + am_lushr (am_x (y : Int)) 4)) 1085102592571150095 = am_x ((y + y / 16 &&& mx_m8 0x0f 8 : Nat) : Int) := by
  have h1 : am_lushr (am_x (y : Int)) 4 = am_x ((mx_u (am_x (y : Int)) / 16 : Nat) : Int) := mx_lushr_u _ 4 (by decide)
  have h2 : y / 16 < 9000000000000000000 := by omega
  have h3 : y + y / 16 < 9000000000000000000 := by omega
  rw [h1, mx_u_x _ (by omega), mx_x_n y (by omega), mx_x_n (y / 16) h2, ← Int.natCast_add, mx_x_n _ h3, mx_land_u, mx_u_n _ (by omega), show mx_u 1085102592571150095 = mx_m8 0x0f 8 by decide +kernel]
theorem mx_lu_n (z s : Nat) (hs : s < 64) (hz : z < 9000000000000000000) : am_lushr (z : Int) s = ((z / 2 ^ s : Nat) : Int) := by
  rw [mx_lushr_u _ s hs, mx_u_n _ (by omega)]
  exact mx_x_n _ (Nat.lt_of_le_of_lt (Nat.div_le_self _ _) hz)
theorem mx_and127 (w : Nat) : am_and (am_w (w : Int)) 127 = ((w % 128 : Nat) : Int) := by
  unfold am_and
  have e : BitVec.ofInt 32 (am_w (w : Int)) &&& BitVec.ofInt 32 127 = BitVec.ofNat 32 (w % 128) := by
    apply BitVec.eq_of_toNat_eq
    rw [BitVec.toNat_and, BitVec.toNat_ofInt, BitVec.toNat_ofInt, BitVec.toNat_ofNat]
    have h1 : (am_w (w : Int) % (2 ^ 32 : Nat)).toNat = w % 4294967296 := by
      unfold am_w Int.bmod
      dsimp only
      omega
    rw [h1]
    show (w % 4294967296 &&& 2 ^ 7 - 1) = _
    rw [Nat.and_two_pow_sub_one_eq_mod]
    omega
  rw [e, ← BitVec.ofInt_natCast, BitVec.toInt_ofInt]
  exact mx_w_id (by omega) (by omega)
theorem mx_bc4 (y : Nat) (hy : y < 1000000000000000000) : am_and (am_w (am_x (am_x (am_x ((y : Int) + am_lushr y 8) + am_lushr (am_x ((y : Int) + am_lushr y 8)) 16) + am_lushr (am_x (am_x ((y : Int) + am_lushr y 8) + am_lushr (am_x ((y : Int) + am_lushr y 8)) 16)) 32))) 127 = (((y + y / 256 + (y + y / 256) / 65536 + (y + y / 256 + (y + y / 256) / 65536) / 4294967296) % 128 : Nat) : Int) := by
  have a1 : am_lushr (y : Int) 8 = ((y / 256 : Nat) : Int) := mx_lu_n y 8 (by decide) (by omega)
  rw [a1, ← Int.natCast_add, mx_x_n (y + y / 256) (by omega)]
  have hz : y + y / 256 < 1100000000000000000 := by omega
  generalize y + y / 256 = z at *
  have a2 : am_lushr (z : Int) 16 = ((z / 65536 : Nat) : Int) := mx_lu_n z 16 (by decide) (by omega)
  rw [a2, ← Int.natCast_add, mx_x_n (z + z / 65536) (by omega)]
  have hx : z + z / 65536 < 1200000000000000000 := by omega
  generalize z + z / 65536 = x at *
  have a3 : am_lushr (x : Int) 32 = ((x / 4294967296 : Nat) : Int) := mx_lu_n x 32 (by decide) (by omega)
  rw [a3, ← Int.natCast_add, mx_x_n (x + x / 4294967296) (by omega)]
  exact mx_and127 _
theorem lo_bitCount_s (d n : Nat) (v : Int) (σ : am_M) : lo_bitCount (d + 1) v σ n = some (((mx_pb 8 (mx_u v) : Nat) : Int), σ, n) := by
  have hu := mx_u_lt v
  have b1 : mx_y1 8 (mx_u v) < 18446744073709551616 := Nat.lt_of_le_of_lt (Nat.sub_le _ _) hu
  have b2 : mx_y2 8 (mx_u v) < 8000000000000000000 := by
    have h3 : mx_m8 0x33 8 + mx_m8 0x33 8 < 8000000000000000000 := by decide +kernel
    exact Nat.lt_of_le_of_lt (Nat.add_le_add (Nat.and_le_right (n := mx_y1 8 (mx_u v)) (m := mx_m8 0x33 8)) (Nat.and_le_right (n := mx_y1 8 (mx_u v) / 4) (m := mx_m8 0x33 8))) h3
  have b3 := mx_y3_8 (mx_u v) hu
  have e2 := mx_bc2 _ b1
  have e2 : _ = am_x ((mx_y2 8 (mx_u v) : Nat) : Int) := e2
  have e3 := mx_bc3 _ b2
  have e3 : _ = am_x ((mx_y3 8 (mx_u v) : Nat) : Int) := e3
  rw [mx_x_n (mx_y3 8 (mx_u v)) (Nat.lt_trans b3.2.2 (by decide))] at e3
  rw [lo_bitCount_e]
  simp only [mx_bc1, e2, e3]
  rw [mx_bc4 _ b3.2.2, b3.1]
