/-! octets -/
theorem mx_o8 (l : Int32) (s : Nat) (hs : s ≤ 24) : ((l.toBitVec.sshiftRight s).setWidth 8).signExtend 32 &&& 255#32 = (l.toBitVec >>> s) &&& 255#32 := by
  apply BitVec.eq_of_getLsbD_eq
  intro i hi
  rw [BitVec.getLsbD_and, BitVec.getLsbD_and]
  by_cases h8 : i < 8
  · rw [BitVec.getLsbD_signExtend, BitVec.getLsbD_setWidth, BitVec.getLsbD_sshiftRight, BitVec.getLsbD_ushiftRight]
    simp [h8, show i < 32 by omega, show s + i < 32 by omega, show ¬ 32 ≤ i by omega]
  · have h255 : (255#32).getLsbD i = false := by
      rw [show (255#32 : BitVec 32) = BitVec.ofNat 32 (2 ^ 8 - 1) from rfl, BitVec.getLsbD_ofNat]
      have := Nat.testBit_two_pow_sub_one 8 i
      rw [this]
      simp [h8]
    rw [h255, Bool.and_false, Bool.and_false]
theorem mx_by8 (l s : Int32) : mx_by l s = (l >>> (s &&& 31)).toInt8.toInt32 := by
  show (((l >>> (s &&& 31)).toInt8.toInt32).toInt8).toInt32 = _
  rw [Int8.toInt8_toInt32]
theorem mx_oct (l : Int32) : ∀ s : Int32, s = 0 ∨ s = 8 ∨ s = 16 ∨ s = 24 → ((l.toUInt32 >>> (s.toUInt32 &&& Int32.toUInt32 31)).toInt32) &&& 255 = mx_by l s &&& 255 := by
  intro s hs
  have h : ∀ k : Nat, k ≤ 24 → ((s.toUInt32 &&& Int32.toUInt32 31).toBitVec % 32).toNat = k → (((s &&& 31).toBitVec).smod 32).toNat = k → ((l.toUInt32 >>> (s.toUInt32 &&& Int32.toUInt32 31)).toInt32) &&& 255 = mx_by l s &&& 255 := by
    intro k hk h1 h2
    apply Int32.toBitVec_inj.mp
    rw [mx_by8, Int32.toBitVec_and, Int32.toBitVec_and]
    have e1 : ((l.toUInt32 >>> (s.toUInt32 &&& Int32.toUInt32 31)).toInt32).toBitVec = l.toBitVec >>> k := by
      show (l.toUInt32 >>> (s.toUInt32 &&& Int32.toUInt32 31)).toBitVec = _
      rw [UInt32.toBitVec_shiftRight, BitVec.ushiftRight_eq', h1]
      rfl
    have e2 : ((l >>> (s &&& 31)).toInt8.toInt32).toBitVec = ((l.toBitVec.sshiftRight k).setWidth 8).signExtend 32 := by
      show (((l >>> (s &&& 31)).toBitVec).signExtend 8).signExtend 32 = _
      rw [Int32.toBitVec_shiftRight, BitVec.sshiftRight_eq', h2, BitVec.signExtend_eq_setWidth_of_le _ (by decide : 8 ≤ 32)]
    rw [e1, e2]
    exact (mx_o8 l k hk).symm
  rcases hs with rfl | rfl | rfl | rfl
  · exact h 0 (by decide) (by decide) (by decide)
  · exact h 8 (by decide) (by decide) (by decide)
  · exact h 16 (by decide) (by decide) (by decide)
  · exact h 24 (by decide) (by decide) (by decide)
theorem mx_sh : ∀ k : Fin 20, (24 : Int32) - 8 * (Int32.ofNat k.1 &&& 3) = Int32.ofNat (24 - 8 * (k.1 % 4)) ∧ (Int32.ofNat (24 - 8 * (k.1 % 4)) = 0 ∨ Int32.ofNat (24 - 8 * (k.1 % 4)) = 8 ∨ Int32.ofNat (24 - 8 * (k.1 % 4)) = 16 ∨ Int32.ofNat (24 - 8 * (k.1 % 4)) = 24) := by decide +kernel
