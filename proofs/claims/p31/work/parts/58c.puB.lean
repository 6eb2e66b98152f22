theorem pop_top {y : Nat} (hy : y < 256 ^ 8) (hd : dg 16 4 16 y) : y + y / 16 < 2 ^ 64 := by
  obtain ⟨-, -, -, -, -, -, -, -, -, -, -, -, -, -, -, d15, -⟩ := hd
  have e : y / 16 / 16 / 16 / 16 / 16 / 16 / 16 / 16 / 16 / 16 / 16 / 16 / 16 / 16 / 16 = y / 1152921504606846976 := by
    rw [Nat.div_div_eq_div_mul, Nat.div_div_eq_div_mul, Nat.div_div_eq_div_mul, Nat.div_div_eq_div_mul, Nat.div_div_eq_div_mul, Nat.div_div_eq_div_mul, Nat.div_div_eq_div_mul, Nat.div_div_eq_div_mul, Nat.div_div_eq_div_mul, Nat.div_div_eq_div_mul, Nat.div_div_eq_div_mul, Nat.div_div_eq_div_mul, Nat.div_div_eq_div_mul, Nat.div_div_eq_div_mul]
  rw [e] at d15
  clear e
  have hy2 : y < 18446744073709551616 := hy
  show y + y / 16 < 18446744073709551616
  clear hy
  omega
theorem pop_n (a0 a1 a2 a3 a4 a5 a6 a7 : Nat) : a0 + 256 * (a1 + 256 * (a2 + 256 * (a3 + 256 * (a4 + 256 * (a5 + 256 * (a6 + 256 * a7)))))) = a0 + 256 * a1 + 65536 * a2 + 16777216 * a3 + 4294967296 * a4 + 1099511627776 * a5 + 281474976710656 * a6 + 72057594037927936 * a7 := by omega
theorem pop_dig {y : Nat} (hy : y < 18446744073709551616) (hd : dg 256 8 8 y) : ∃ a0 a1 a2 a3 a4 a5 a6 a7 : Nat, a0 ≤ 8 ∧ a1 ≤ 8 ∧ a2 ≤ 8 ∧ a3 ≤ 8 ∧ a4 ≤ 8 ∧ a5 ≤ 8 ∧ a6 ≤ 8 ∧ a7 ≤ 8 ∧ y = a0 + 256 * a1 + 65536 * a2 + 16777216 * a3 + 4294967296 * a4 + 1099511627776 * a5 + 281474976710656 * a6 + 72057594037927936 * a7 ∧ sd 256 8 y = a0 + a1 + a2 + a3 + a4 + a5 + a6 + a7 := by
  obtain ⟨d0, d1, d2, d3, d4, d5, d6, d7, -⟩ := hd
  have top : y / 256 / 256 / 256 / 256 / 256 / 256 / 256 < 256 := by
    rw [Nat.div_div_eq_div_mul, Nat.div_div_eq_div_mul, Nat.div_div_eq_div_mul, Nat.div_div_eq_div_mul, Nat.div_div_eq_div_mul, Nat.div_div_eq_div_mul, Nat.div_lt_iff_lt_mul (by decide)]
    exact hy
  have div : ∀ z : Nat, ∃ m q : Nat, m = z % 256 ∧ q = z / 256 ∧ z = m + 256 * q := fun z => ⟨_, _, rfl, rfl, (Nat.mod_add_div z 256).symm⟩
  have s8 : sd 256 8 y = y % 256 + (y / 256 % 256 + (y / 256 / 256 % 256 + (y / 256 / 256 / 256 % 256 + (y / 256 / 256 / 256 / 256 % 256 + (y / 256 / 256 / 256 / 256 / 256 % 256 + (y / 256 / 256 / 256 / 256 / 256 / 256 % 256 + (y / 256 / 256 / 256 / 256 / 256 / 256 / 256 % 256 + 0))))))) := rfl
  clear hy
  obtain ⟨m0, q0, e0, f0, g0⟩ := div y
  rw [← f0] at d1 d2 d3 d4 d5 d6 d7 top s8
  rw [← e0] at d0 s8
  obtain ⟨m1, q1, e1, f1, g1⟩ := div q0
  rw [← f1] at d2 d3 d4 d5 d6 d7 top s8
  rw [← e1] at d1 s8
  obtain ⟨m2, q2, e2, f2, g2⟩ := div q1
  rw [← f2] at d3 d4 d5 d6 d7 top s8
  rw [← e2] at d2 s8
  obtain ⟨m3, q3, e3, f3, g3⟩ := div q2
  rw [← f3] at d4 d5 d6 d7 top s8
  rw [← e3] at d3 s8
  obtain ⟨m4, q4, e4, f4, g4⟩ := div q3
  rw [← f4] at d5 d6 d7 top s8
  rw [← e4] at d4 s8
  obtain ⟨m5, q5, e5, f5, g5⟩ := div q4
  rw [← f5] at d6 d7 top s8
  rw [← e5] at d5 s8
  obtain ⟨m6, q6, e6, f6, g6⟩ := div q5
  rw [← f6] at d7 top s8
  rw [← e6] at d6 s8
  rw [Nat.mod_eq_of_lt top] at d7 s8
  refine ⟨m0, m1, m2, m3, m4, m5, m6, q6, d0, d1, d2, d3, d4, d5, d6, d7, ?_, by rw [s8]; simp only [Nat.add_assoc, Nat.add_zero]⟩
  rw [g0, g1, g2, g3, g4, g5, g6]
  exact pop_n m0 m1 m2 m3 m4 m5 m6 q6
