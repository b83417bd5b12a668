/-! the second object: its arithmetic -/
def mg_mh (l1 l2 : Int64) : Int64 := ((((l1 >>> ((32 : Int32).toInt64 &&& 63)) * (l2 >>> ((32 : Int32).toInt64 &&& 63))) + ((((l1 >>> ((32 : Int32).toInt64 &&& 63)) * (l2 &&& 4294967295)) + ((((l1 &&& 4294967295) * (l2 &&& 4294967295)).toUInt64 >>> ((32 : Int32).toInt64.toUInt64 &&& Int64.toUInt64 63)).toInt64)) >>> ((32 : Int32).toInt64 &&& 63))) + ((((((l1 >>> ((32 : Int32).toInt64 &&& 63)) * (l2 &&& 4294967295)) + ((((l1 &&& 4294967295) * (l2 &&& 4294967295)).toUInt64 >>> ((32 : Int32).toInt64.toUInt64 &&& Int64.toUInt64 63)).toInt64)) &&& 4294967295) + ((l1 &&& 4294967295) * (l2 >>> ((32 : Int32).toInt64 &&& 63)))) >>> ((32 : Int32).toInt64 &&& 63)))
theorem mq_sh (v : Int64) : (v >>> ((32 : Int32).toInt64 &&& 63)).toInt = v.toInt / 4294967296 := by
  have e : ((32 : Int32).toInt64 &&& 63) = 32 := by decide
  rw [e, ← Int64.toInt_toBitVec, Int64.toBitVec_shiftRight]
  have e2 : ((32 : Int64).toBitVec.smod 64) = 32#64 := by decide
  rw [e2, BitVec.sshiftRight', BitVec.toInt_sshiftRight, Int.shiftRight_eq_div_pow, Int64.toInt_toBitVec]
  rfl
theorem mq_s6 (v : Int64) : (v >>> ((63 : Int32).toInt64 &&& 63)).toInt = v.toInt / 9223372036854775808 := by
  have e : ((63 : Int32).toInt64 &&& 63) = 63 := by decide
  rw [e, ← Int64.toInt_toBitVec, Int64.toBitVec_shiftRight]
  have e2 : ((63 : Int64).toBitVec.smod 64) = 63#64 := by decide
  rw [e2, BitVec.sshiftRight', BitVec.toInt_sshiftRight, Int.shiftRight_eq_div_pow, Int64.toInt_toBitVec]
  rfl
theorem mq_b (v : Int64) : -9223372036854775808 ≤ v.toInt ∧ v.toInt < 9223372036854775808 := ⟨Int64.le_toInt v, Int64.toInt_lt v⟩
theorem mq_n (v : Int64) : (v.toBitVec.toNat : Int) = v.toInt % 18446744073709551616 := by
  rw [← Int64.toInt_toBitVec, BitVec.toInt_eq_toNat_bmod]
  have := v.toBitVec.isLt
  simp only [Int.bmod]
  split <;> omega
theorem mq_lo (v : Int64) : (v &&& 4294967295).toInt = v.toInt % 4294967296 := by
  have h : (v &&& 4294967295).toBitVec.toNat = v.toBitVec.toNat % 2 ^ 32 := by
    rw [Int64.toBitVec_and, BitVec.toNat_and]
    exact Nat.and_two_pow_sub_one_eq_mod _ 32
  have h1 := mq_n v
  have h2 := mq_n (v &&& 4294967295)
  have h3 := mq_b (v &&& 4294967295)
  have h4 : v.toBitVec.toNat % 2 ^ 32 < 2 ^ 32 := Nat.mod_lt _ (by decide)
  rw [h] at h2
  omega
theorem mq_us (z : Int64) : ((z.toUInt64 >>> ((32 : Int32).toInt64.toUInt64 &&& Int64.toUInt64 63)).toInt64).toInt = z.toInt % 18446744073709551616 / 4294967296 := by
  have e : ((32 : Int32).toInt64.toUInt64 &&& Int64.toUInt64 63) = 32 := by decide
  rw [e]
  have h1 : ((z.toUInt64 >>> 32).toInt64).toBitVec.toNat = z.toBitVec.toNat / 2 ^ 32 := by
    show (z.toUInt64 >>> 32).toBitVec.toNat = _
    rw [UInt64.toBitVec_shiftRight]
    show (z.toBitVec >>> (BitVec.umod 32#64 64)).toNat = _
    have e2 : BitVec.umod 32#64 64 = 32#64 := by decide
    rw [e2, BitVec.ushiftRight_eq', BitVec.toNat_ushiftRight, Nat.shiftRight_eq_div_pow]
    rfl
  have h2 := mq_n z
  have h3 := mq_n ((z.toUInt64 >>> 32).toInt64)
  have h4 := mq_b ((z.toUInt64 >>> 32).toInt64)
  have h5 := z.toBitVec.isLt
  rw [h1] at h3
  omega
theorem mq_mul {x y : Int64} (h1 : -9223372036854775808 ≤ x.toInt * y.toInt) (h2 : x.toInt * y.toInt < 9223372036854775808) : (x * y).toInt = x.toInt * y.toInt := by
  rw [Int64.toInt_mul, bm64 h1 h2]
theorem mq_add {x y : Int64} (h1 : -9223372036854775808 ≤ x.toInt + y.toInt) (h2 : x.toInt + y.toInt < 9223372036854775808) : (x + y).toInt = x.toInt + y.toInt := by
  rw [Int64.toInt_add, bm64 h1 h2]
/-- a * b for -2^31 ≤ a < 2^31, 0 ≤ b < 2^32 -/
theorem mq_p {a b : Int} (h1 : -2147483648 ≤ a) (h2 : a ≤ 2147483647) (h3 : 0 ≤ b) (h4 : b ≤ 4294967295) : -2147483648 * 4294967295 ≤ a * b ∧ a * b ≤ 2147483647 * 4294967295 := by
  constructor
  · have := Int.mul_le_mul_of_nonneg_right h1 h3
    omega
  · have := Int.mul_le_mul_of_nonneg_right h2 h3
    omega
theorem mq_q {a b : Int} (h1 : 0 ≤ a) (h2 : a ≤ 4294967295) (h3 : 0 ≤ b) (h4 : b ≤ 4294967295) : 0 ≤ a * b ∧ a * b ≤ 4294967295 * 4294967295 := by
  constructor
  · exact Int.mul_nonneg h1 h3
  · have := Int.mul_le_mul_of_nonneg_right h2 h3
    omega
theorem mq_r {a b : Int} (h1 : -2147483648 ≤ a) (h2 : a ≤ 2147483647) (h3 : -2147483648 ≤ b) (h4 : b ≤ 2147483647) : -4611686018427387904 ≤ a * b ∧ a * b ≤ 4611686018427387904 := by
  have h : (a * b).natAbs ≤ 4611686018427387904 := by
    rw [Int.natAbs_mul]
    exact Nat.mul_le_mul (show a.natAbs ≤ 2147483648 by omega) (show b.natAbs ≤ 2147483648 by omega)
  omega
theorem mg_mh_i (x y : Int64) : (mg_mh x y).toInt = x.toInt * y.toInt / 18446744073709551616 := by
  unfold mg_mh
  have hx := mq_b x
  have hy := mq_b y
  have hz := mq_us ((x &&& 4294967295) * (y &&& 4294967295))
  have x1 := mq_sh x
  have y1 := mq_sh y
  have x2 := mq_lo x
  have y2 := mq_lo y
  have hzm : ((x &&& 4294967295) * (y &&& 4294967295)).toInt % 18446744073709551616 = ((x.toInt % 4294967296) * (y.toInt % 4294967296)) % 18446744073709551616 := by
    rw [Int64.toInt_mul, x2, y2]
    exact Int.bmod_emod
  rw [hzm] at hz
  generalize (((x &&& 4294967295) * (y &&& 4294967295)).toUInt64 >>> ((32 : Int32).toInt64.toUInt64 &&& Int64.toUInt64 63)).toInt64 = w at *
  have exy : x.toInt * y.toInt = (x.toInt / 4294967296) * (y.toInt / 4294967296) * 18446744073709551616 + ((x.toInt / 4294967296) * (y.toInt % 4294967296)) * 4294967296 + ((x.toInt % 4294967296) * (y.toInt / 4294967296)) * 4294967296 + (x.toInt % 4294967296) * (y.toInt % 4294967296) := by
    have e1 : x.toInt = (x.toInt / 4294967296) * 4294967296 + x.toInt % 4294967296 := by omega
    have e2 : y.toInt = (y.toInt / 4294967296) * 4294967296 + y.toInt % 4294967296 := by omega
    generalize x.toInt / 4294967296 = a at *
    generalize x.toInt % 4294967296 = b at *
    generalize y.toInt / 4294967296 = c at *
    generalize y.toInt % 4294967296 = d at *
    rw [e1, e2]
    rw [Int.add_mul, Int.mul_add, Int.mul_add]
    have e3 : a * 4294967296 * (c * 4294967296) = a * c * 18446744073709551616 := by
      rw [Int.mul_assoc, Int.mul_comm 4294967296, Int.mul_assoc, ← Int.mul_assoc]
      rfl
    have e4 : a * 4294967296 * d = a * d * 4294967296 := by
      rw [Int.mul_assoc, Int.mul_comm 4294967296, ← Int.mul_assoc]
    have e5 : b * (c * 4294967296) = b * c * 4294967296 := (Int.mul_assoc ..).symm
    rw [e3, e4, e5]
    omega
  have a1 : -2147483648 ≤ x.toInt / 4294967296 ∧ x.toInt / 4294967296 ≤ 2147483647 := by omega
  have c1 : -2147483648 ≤ y.toInt / 4294967296 ∧ y.toInt / 4294967296 ≤ 2147483647 := by omega
  have b1 : 0 ≤ x.toInt % 4294967296 ∧ x.toInt % 4294967296 ≤ 4294967295 := by omega
  have d1 : 0 ≤ y.toInt % 4294967296 ∧ y.toInt % 4294967296 ≤ 4294967295 := by omega
  generalize (x >>> ((32 : Int32).toInt64 &&& 63)) = X1 at *
  generalize (y >>> ((32 : Int32).toInt64 &&& 63)) = Y1 at *
  generalize (x &&& 4294967295) = X2 at *
  generalize (y &&& 4294967295) = Y2 at *
  rw [exy]
  generalize x.toInt / 4294967296 = a at *
  generalize x.toInt % 4294967296 = b at *
  generalize y.toInt / 4294967296 = c at *
  generalize y.toInt % 4294967296 = d at *
  have p1 := mq_p a1.1 a1.2 d1.1 d1.2
  have p2 := mq_p c1.1 c1.2 b1.1 b1.2
  have p3 := mq_q b1.1 b1.2 d1.1 d1.2
  have p4 := mq_r a1.1 a1.2 c1.1 c1.2
  rw [Int.mul_comm c b] at p2
  have m1 : (X1 * Y2).toInt = a * d := by
    rw [mq_mul (by rw [x1, y2]; omega) (by rw [x1, y2]; omega), x1, y2]
  have m2 : (X2 * Y1).toInt = b * c := by
    rw [mq_mul (by rw [x2, y1]; omega) (by rw [x2, y1]; omega), x2, y1]
  have m3 : (X1 * Y1).toInt = a * c := by
    rw [mq_mul (by rw [x1, y1]; omega) (by rw [x1, y1]; omega), x1, y1]
  have t1 : (X1 * Y2 + w).toInt = a * d + w.toInt := by
    rw [mq_add (by rw [m1]; omega) (by rw [m1]; omega), m1]
  generalize hT : X1 * Y2 + w = T at *
  have s1 := mq_sh T
  have l1 := mq_lo T
  generalize T &&& 4294967295 = T2 at *
  have t2 : (T2 + X2 * Y1).toInt = T2.toInt + b * c := by
    rw [mq_add (by rw [m2]; omega) (by rw [m2]; omega), m2]
  have s2 := mq_sh (T2 + X2 * Y1)
  generalize (T >>> ((32 : Int32).toInt64 &&& 63)) = T1 at *
  generalize ((T2 + X2 * Y1) >>> ((32 : Int32).toInt64 &&& 63)) = U at *
  have u1 : (X1 * Y1 + T1).toInt = a * c + T1.toInt := by
    rw [mq_add (by rw [m3]; omega) (by rw [m3]; omega), m3]
  rw [mq_add (by rw [u1]; omega) (by rw [u1]; omega), u1]
  omega
theorem mg_ng (v : Int64) : v < 0 ↔ v.toBitVec.msb = true := by
  rw [BitVec.msb_eq_toInt, decide_eq_true_iff, Int64.toInt_toBitVec, Int64.lt_iff_toInt_lt]
  rfl
theorem mg_and (x y : Int64) : (x &&& y) < 0 ↔ (x < 0 ∧ y < 0) := by
  rw [mg_ng, mg_ng, mg_ng, Int64.toBitVec_and, BitVec.msb_and, Bool.and_eq_true]
theorem mg_xor (x y : Int64) : (x ^^^ y) < 0 ↔ ¬ (x < 0 ↔ y < 0) := by
  rw [mg_ng, mg_ng, mg_ng, Int64.toBitVec_xor, BitVec.msb_xor]
  cases x.toBitVec.msb <;> cases y.toBitVec.msb <;> simp
theorem mg_lt0 (v : Int64) : v < 0 ↔ v.toInt < 0 := by
  rw [Int64.lt_iff_toInt_lt]
  rfl
theorem mg_ova {x y : Int64} (hx : mv_in x) (hy : mv_in y) (h : ((x ^^^ (x + y)) &&& (y ^^^ (x + y))) < 0) : ¬ mv_in (x + y) := by
  intro hv
  rw [mg_and, mg_xor, mg_xor, mg_lt0, mg_lt0, mg_lt0] at h
  have e := Int64.toInt_add x y
  unfold mv_in at *
  rw [Int.bmod_def] at e
  split at e <;> omega
theorem mg_ovs {x y : Int64} (hx : mv_in x) (hy : mv_in y) (h : ((x ^^^ y) &&& (x ^^^ (x - y))) < 0) : ¬ mv_in (x - y) := by
  intro hv
  rw [mg_and, mg_xor, mg_xor, mg_lt0, mg_lt0, mg_lt0] at h
  have e := Int64.toInt_sub x y
  unfold mv_in at *
  rw [Int.bmod_def] at e
  split at e <;> omega
theorem mg_mu1 {x y : Int64} (h : mg_mh x y = (x * y) >>> ((63 : Int32).toInt64 &&& 63)) : (x * y).toInt = x.toInt * y.toInt := by
  have h1 := congrArg Int64.toInt h
  rw [mg_mh_i, mq_s6, Int64.toInt_mul] at h1
  rw [Int64.toInt_mul]
  have hb := mq_b (x * y)
  rw [Int64.toInt_mul] at hb
  generalize x.toInt * y.toInt = z at *
  rw [Int.bmod_def] at *
  split at * <;> omega
theorem mg_mu0 {x y : Int64} (h : -4611686018427387904 ≤ x.toInt * y.toInt ∧ x.toInt * y.toInt ≤ 4611686018427387904) : mg_mh x y = (x * y) >>> ((63 : Int32).toInt64 &&& 63) := by
  apply Int64.toInt_inj.mp
  rw [mg_mh_i, mq_s6, mq_mul (by omega) (by omega)]
  omega
