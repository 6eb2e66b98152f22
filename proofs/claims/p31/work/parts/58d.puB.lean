/-- the number of a long -/
def tn (x : Int64) : Nat := x.toBitVec.toNat
theorem tn_lt (x : Int64) : tn x < 2 ^ 64 := x.toBitVec.isLt
theorem tn_and (x y : Int64) : tn (x &&& y) = tn x &&& tn y := by unfold tn; rw [Int64.toBitVec_and, BitVec.toNat_and]
theorem tn_add {x y : Int64} (h : tn x + tn y < 2 ^ 64) : tn (x + y) = tn x + tn y := by
  unfold tn at h ⊢
  rw [Int64.toBitVec_add, BitVec.toNat_add, Nat.mod_eq_of_lt h]
theorem tn_sub {x y : Int64} (h : tn y ≤ tn x) : tn (x - y) = tn x - tn y := by
  unfold tn at h ⊢
  have := x.toBitVec.isLt
  rw [Int64.toBitVec_sub, BitVec.toNat_sub]
  omega
theorem tn_shr {k : Nat} (hk : k < 64) (x : Int64) : tn ((x.toUInt64 >>> ((nI k).toInt64.toUInt64 &&& Int64.toUInt64 63)).toInt64) = tn x / 2 ^ k := by
  show (x.toUInt64 >>> ((nI k).toInt64.toUInt64 &&& Int64.toUInt64 63)).toNat = _
  rw [UInt64.toNat_shiftRight, ib_u63 k hk, Nat.mod_eq_of_lt hk, Nat.shiftRight_eq_div_pow]
  rfl
theorem tn_bit (x : Int64) (i : Nat) : (tn x).testBit i = ib x i := rfl
def cB (x : Int64) : Nat := ct (ib x) 64
theorem pu_bitCount {x : Int64} {post : Int32 → Prop} (h : post (nI (cB x))) : wp_J13_bitCount_95d88 x post := by
  intro w1 e1 w2 e2 w3 e3 w4 e4 w5 e5 w6 e6
  have hX : tn x < 4 ^ 32 := tn_lt x
  obtain ⟨a1', a2', a3'⟩ := s1_ 32 (tn x) hX
  have a4' := s1d 32 (tn x) hX
  have m1 : tn (6148914691236517205 : Int64) = msk 2 1 32 := by decide +kernel
  have m2 : tn (3689348814741910323 : Int64) = msk 4 3 16 := by decide +kernel
  have m3 : tn (1085102592571150095 : Int64) = msk 8 15 8 := by decide +kernel
  have sh : ∀ (y : Int64) (k : Nat), k < 64 → tn ((y.toUInt64 >>> ((nI k).toInt64.toUInt64 &&& Int64.toUInt64 63)).toInt64) = tn y / 2 ^ k := fun y k hk => tn_shr hk y
  have t1 : tn w1 = tn x - (tn x / 2 &&& msk 2 1 32) := by
    have q : tn ((((x).toUInt64 >>> (((1 : Int32)).toInt64.toUInt64 &&& Int64.toUInt64 63)).toInt64) &&& (6148914691236517205 : Int64)) = (tn x / 2 &&& msk 2 1 32) := by
      rw [tn_and, m1]
      exact congrArg (fun z => z &&& msk 2 1 32) (sh x 1 (by decide))
    rw [e1, tn_sub (by rw [q]; exact a1'), q]
  rw [← t1] at a2' a3' a4'
  obtain ⟨b1, b2, b3⟩ := s2_ 16 (tn w1) a3' a4'
  have t2 : tn w2 = (tn w1 &&& msk 4 3 16) + (tn w1 / 4 &&& msk 4 3 16) := by
    have q : tn ((((w1).toUInt64 >>> (((2 : Int32)).toInt64.toUInt64 &&& Int64.toUInt64 63)).toInt64) &&& (3689348814741910323 : Int64)) = (tn w1 / 4 &&& msk 4 3 16) := by
      rw [tn_and, m2]
      exact congrArg (fun z => z &&& msk 4 3 16) (sh w1 2 (by decide))
    have q2 : tn (w1 &&& (3689348814741910323 : Int64)) = (tn w1 &&& msk 4 3 16) := by rw [tn_and, m2]
    rw [e2, tn_add (by rw [q, q2]; exact b2), q, q2]
  rw [← t2] at b1 b2 b3
  obtain ⟨c1, c2, c3⟩ := s3_ 8 (tn w2) b2 b3
  have t3 : tn w3 = (tn w2 + tn w2 / 16) &&& msk 8 15 8 := by
    have q : tn (((w2).toUInt64 >>> (((4 : Int32)).toInt64.toUInt64 &&& Int64.toUInt64 63)).toInt64) = tn w2 / 16 := sh w2 4 (by decide)
    rw [e3, tn_and, m3, tn_add (by rw [q]; exact pop_top b2 b3), q]
  rw [← t3] at c1 c2 c3
  have q4 : tn (((w3).toUInt64 >>> (((8 : Int32)).toInt64.toUInt64 &&& Int64.toUInt64 63)).toInt64) = tn w3 / 256 := sh w3 8 (by decide)
  have q5 : tn (((w4).toUInt64 >>> (((16 : Int32)).toInt64.toUInt64 &&& Int64.toUInt64 63)).toInt64) = tn w4 / 65536 := sh w4 16 (by decide)
  have q6 : tn (((w5).toUInt64 >>> (((32 : Int32)).toInt64.toUInt64 &&& Int64.toUInt64 63)).toInt64) = tn w5 / 4294967296 := sh w5 32 (by decide)
  have hc : tn w3 < 18446744073709551616 := c2
  obtain ⟨a0, a1, a2, a3, a4, a5, a6, a7, h0, h1, h2, h3, h4, h5, h6, h7, hy, hs⟩ := pop_dig hc c3
  obtain ⟨p4, -, -, -⟩ := pop_sum h0 h1 h2 h3 h4 h5 h6 h7 hy rfl rfl rfl
  have t4 : tn w4 = tn w3 + tn w3 / 256 := by rw [e4, tn_add (by rw [q4]; exact p4), q4]
  obtain ⟨-, p5, -, -⟩ := pop_sum h0 h1 h2 h3 h4 h5 h6 h7 hy t4 rfl rfl
  have t5 : tn w5 = tn w4 + tn w4 / 65536 := by rw [e5, tn_add (by rw [q5]; exact p5), q5]
  obtain ⟨-, -, p6, -⟩ := pop_sum h0 h1 h2 h3 h4 h5 h6 h7 hy t4 t5 rfl
  have t6 : tn w6 = tn w5 + tn w5 / 4294967296 := by rw [e6, tn_add (by rw [q6]; exact p6), q6]
  obtain ⟨-, -, -, p7⟩ := pop_sum h0 h1 h2 h3 h4 h5 h6 h7 hy t4 t5 t6
  have cnt : sd 256 8 (tn w3) = cB x := by
    rw [c1, show 2 * 8 = 16 from rfl, b1, show 2 * 16 = 32 from rfl, a2', show 2 * 32 = 64 from rfl, sd_ct]
    rfl
  have fin : tn w6 % 128 = cB x := by rw [p7, ← hs, cnt]
  have e7 : (w6.toInt32 &&& (127 : Int32)) = nI (cB x) := by
    rw [show w6.toInt32 &&& (127 : Int32) = nI (w6.toInt32.toBitVec.toNat % 2 ^ 7) from pk_and _ 7 (by decide), ← fin]
    have hw : w6.toInt32.toBitVec.toNat = tn w6 % 2 ^ 32 := by
      rw [Int64.toBitVec_toInt32]
      unfold tn
      rw [BitVec.signExtend_eq_setWidth_of_le _ (by decide), BitVec.toNat_setWidth]
    rw [hw, show (2 : Nat) ^ 7 = 128 from rfl, Nat.mod_mod_of_dvd (tn w6) (by decide : 128 ∣ 2 ^ 32)]
  rw [e7]
  exact h
