/-! Long.bitCount -/
def sd (B : Nat) : Nat → Nat → Nat
  | 0, _ => 0
  | m + 1, x => x % B + sd B m (x / B)
theorem sd_ct : ∀ m x, sd 2 m x = ct (fun i => x.testBit i) m
  | 0, x => rfl
  | m + 1, x => by
    rw [ct_shift, show sd 2 (m + 1) x = x % 2 + sd 2 m (x / 2) from rfl, sd_ct m]
    congr 1
    · rw [Nat.testBit_zero]
      have : x % 2 = 0 ∨ x % 2 = 1 := by omega
      rcases this with h | h <;> simp [h]
    · refine ct_congr (fun k _ => ?_)
      rw [Nat.testBit_succ]
theorem nd_split {s a m Y M : Nat} (ha : a < 2 ^ s) (hm : m < 2 ^ s) : (2 ^ s * Y + a) &&& (2 ^ s * M + m) = 2 ^ s * (Y &&& M) + (a &&& m) := by
  apply Nat.eq_of_testBit_eq
  intro i
  rw [Nat.testBit_and, Nat.testBit_two_pow_mul_add _ ha, Nat.testBit_two_pow_mul_add _ hm, Nat.testBit_two_pow_mul_add _ (Nat.lt_of_le_of_lt Nat.and_le_left ha)]
  split
  · rw [Nat.testBit_and]
  · rw [Nat.testBit_and]
/-- a mask of m digits c in base 2^s -/
def msk (s c : Nat) : Nat → Nat
  | 0 => 0
  | m + 1 => 2 ^ s * msk s c m + c
theorem s1_ : ∀ m X, X < 4 ^ m → (X / 2 &&& msk 2 1 m) ≤ X ∧ sd 4 m (X - (X / 2 &&& msk 2 1 m)) = sd 2 (2 * m) X ∧ (X - (X / 2 &&& msk 2 1 m)) < 4 ^ m
  | 0, X, h => by
    have : X = 0 := by simpa using h
    subst this
    simp [sd, msk]
  | m + 1, X, h => by
    have h4 : 4 ^ (m + 1) = 4 * 4 ^ m := by rw [Nat.pow_succ]; omega
    have hY : X / 4 < 4 ^ m := by omega
    obtain ⟨i1, i2, i3⟩ := s1_ m (X / 4) hY
    have e : X / 2 &&& msk 2 1 (m + 1) = 4 * (X / 4 / 2 &&& msk 2 1 m) + ((X / 2) % 4 &&& 1) := by
      have := nd_split (s := 2) (a := (X / 2) % 4) (m := 1) (Y := X / 2 / 4) (M := msk 2 1 m) (Nat.mod_lt _ (by decide)) (by decide)
      rw [show (2 : Nat) ^ 2 = 4 from rfl, Nat.div_add_mod] at this
      rw [show msk 2 1 (m + 1) = 4 * msk 2 1 m + 1 from rfl, this, show X / 2 / 4 = X / 4 / 2 by omega]
    have e1 : (X / 2) % 4 &&& 1 = (X / 2) % 2 := by
      rw [Nat.and_one_is_mod]
      omega
    rw [e, e1]
    generalize hq : (X / 4 / 2 &&& msk 2 1 m) = q at i1 i2 i3
    have b1 : 4 * q + X / 2 % 2 ≤ X := by omega
    have e2 : X - (4 * q + X / 2 % 2) = 4 * (X / 4 - q) + (X % 4 - X / 2 % 2) := by omega
    refine ⟨b1, ?_, ?_⟩
    · rw [e2]
      show (4 * (X / 4 - q) + (X % 4 - X / 2 % 2)) % 4 + sd 4 m ((4 * (X / 4 - q) + (X % 4 - X / 2 % 2)) / 4) = sd 2 (2 * m + 1 + 1) X
      rw [show (4 * (X / 4 - q) + (X % 4 - X / 2 % 2)) / 4 = X / 4 - q by omega, i2]
      show _ = X % 2 + (X / 2 % 2 + sd 2 (2 * m) (X / 2 / 2))
      rw [show X / 2 / 2 = X / 4 by omega]
      omega
    · rw [e2]
      omega
/-- digits of base 4 at most 2 -/
def dg (B d : Nat) : Nat → Nat → Prop
  | 0, _ => True
  | m + 1, x => x % B ≤ d ∧ dg B d m (x / B)
theorem s1d : ∀ m X, X < 4 ^ m → dg 4 2 m (X - (X / 2 &&& msk 2 1 m))
  | 0, X, h => trivial
  | m + 1, X, h => by
    have h4 : 4 ^ (m + 1) = 4 * 4 ^ m := by rw [Nat.pow_succ]; omega
    have hY : X / 4 < 4 ^ m := by omega
    have i1 := (s1_ m (X / 4) hY).1
    have ih := s1d m (X / 4) hY
    have e : X / 2 &&& msk 2 1 (m + 1) = 4 * (X / 4 / 2 &&& msk 2 1 m) + ((X / 2) % 4 &&& 1) := by
      have := nd_split (s := 2) (a := (X / 2) % 4) (m := 1) (Y := X / 2 / 4) (M := msk 2 1 m) (Nat.mod_lt _ (by decide)) (by decide)
      rw [show (2 : Nat) ^ 2 = 4 from rfl, Nat.div_add_mod] at this
      rw [show msk 2 1 (m + 1) = 4 * msk 2 1 m + 1 from rfl, this, show X / 2 / 4 = X / 4 / 2 by omega]
    have e1 : (X / 2) % 4 &&& 1 = (X / 2) % 2 := by
      rw [Nat.and_one_is_mod]
      omega
    rw [e, e1]
    generalize hq : (X / 4 / 2 &&& msk 2 1 m) = q at i1 ih
    have e2 : X - (4 * q + X / 2 % 2) = 4 * (X / 4 - q) + (X % 4 - X / 2 % 2) := by omega
    rw [e2]
    refine ⟨by omega, ?_⟩
    rw [show (4 * (X / 4 - q) + (X % 4 - X / 2 % 2)) / 4 = X / 4 - q by omega]
    exact ih
theorem s2_ : ∀ m X, X < 16 ^ m → dg 4 2 (2 * m) X → sd 16 m ((X &&& msk 4 3 m) + (X / 4 &&& msk 4 3 m)) = sd 4 (2 * m) X ∧ (X &&& msk 4 3 m) + (X / 4 &&& msk 4 3 m) < 16 ^ m ∧ dg 16 4 m ((X &&& msk 4 3 m) + (X / 4 &&& msk 4 3 m))
  | 0, X, h, _ => by
    have : X = 0 := by simpa using h
    subst this
    simp [sd, msk, dg]
  | m + 1, X, h, hd => by
    have h4 : 16 ^ (m + 1) = 16 * 16 ^ m := by rw [Nat.pow_succ]; omega
    have hY : X / 16 < 16 ^ m := by omega
    have hd' : X % 4 ≤ 2 ∧ X / 4 % 4 ≤ 2 ∧ dg 4 2 (2 * m) (X / 4 / 4) := hd
    obtain ⟨d0, d1, d2⟩ := hd'
    rw [show X / 4 / 4 = X / 16 by omega] at d2
    obtain ⟨i1, i2, i3⟩ := s2_ m (X / 16) hY d2
    have and3 : ∀ a, a < 16 → a &&& 3 = a % 4 := by decide
    have e : X &&& msk 4 3 (m + 1) = 16 * (X / 16 &&& msk 4 3 m) + X % 16 % 4 := by
      have := nd_split (s := 4) (a := X % 16) (m := 3) (Y := X / 16) (M := msk 4 3 m) (Nat.mod_lt _ (by decide)) (by decide)
      rw [show (2 : Nat) ^ 4 = 16 from rfl, Nat.div_add_mod, and3 _ (Nat.mod_lt _ (by decide))] at this
      exact this
    have e' : X / 4 &&& msk 4 3 (m + 1) = 16 * (X / 16 / 4 &&& msk 4 3 m) + X / 4 % 16 % 4 := by
      have := nd_split (s := 4) (a := X / 4 % 16) (m := 3) (Y := X / 4 / 16) (M := msk 4 3 m) (Nat.mod_lt _ (by decide)) (by decide)
      rw [show (2 : Nat) ^ 4 = 16 from rfl, Nat.div_add_mod, and3 _ (Nat.mod_lt _ (by decide))] at this
      rw [show X / 16 / 4 = X / 4 / 16 by omega]
      exact this
    rw [e, e']
    generalize (X / 16 &&& msk 4 3 m) = q1 at i1 i2 i3 ⊢
    generalize (X / 16 / 4 &&& msk 4 3 m) = q2 at i1 i2 i3 ⊢
    rw [Nat.mod_mod_of_dvd X (by decide : 4 ∣ 16), Nat.mod_mod_of_dvd (X / 4) (by decide : 4 ∣ 16)]
    have ed : (16 * q1 + X % 4 + (16 * q2 + X / 4 % 4)) / 16 = q1 + q2 := by omega
    refine ⟨?_, by omega, ⟨by omega, ?_⟩⟩
    · show (16 * q1 + X % 4 + (16 * q2 + X / 4 % 4)) % 16 + sd 16 m ((16 * q1 + X % 4 + (16 * q2 + X / 4 % 4)) / 16) = X % 4 + (X / 4 % 4 + sd 4 (2 * m) (X / 4 / 4))
      rw [ed, i1, show X / 4 / 4 = X / 16 by omega]
      omega
    · rw [ed]
      exact i3
