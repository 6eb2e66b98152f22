theorem s3_ : ∀ m X, X < 256 ^ m → dg 16 4 (2 * m) X → sd 256 m ((X + X / 16) &&& msk 8 15 m) = sd 16 (2 * m) X ∧ (X + X / 16) &&& msk 8 15 m < 256 ^ m ∧ dg 256 8 m ((X + X / 16) &&& msk 8 15 m)
  | 0, X, h, _ => by
    have : X = 0 := by simpa using h
    subst this
    simp [sd, msk, dg]
  | m + 1, X, h, hd => by
    have h4 : 256 ^ (m + 1) = 256 * 256 ^ m := by rw [Nat.pow_succ]; omega
    have hY : X / 256 < 256 ^ m := by omega
    have hd' : X % 16 ≤ 4 ∧ X / 16 % 16 ≤ 4 ∧ dg 16 4 (2 * m) (X / 16 / 16) := hd
    obtain ⟨d0, d1, d2⟩ := hd'
    rw [show X / 16 / 16 = X / 256 by omega] at d2
    have d3 : X / 256 % 16 ≤ 4 := by
      cases m with
      | zero =>
        have : X / 256 = 0 := by simpa using hY
        omega
      | succ m => exact d2.1
    obtain ⟨i1, i2, i3⟩ := s3_ m (X / 256) hY d2
    have and15 : ∀ a, a < 256 → a &&& 15 = a % 16 := by decide +kernel
    have low : (X + X / 16) / 256 = X / 256 + X / 256 / 16 ∧ (X + X / 16) % 256 % 16 = X % 16 + X / 16 % 16 := by
      obtain ⟨b, hb⟩ : ∃ b, b = X / 256 := ⟨_, rfl⟩
      obtain ⟨f1, hf1⟩ : ∃ f1, f1 = X / 16 % 16 := ⟨_, rfl⟩
      obtain ⟨f0, hf0⟩ : ∃ f0, f0 = X % 16 := ⟨_, rfl⟩
      obtain ⟨b1, hb1⟩ : ∃ b1, b1 = b / 16 := ⟨_, rfl⟩
      obtain ⟨b0, hb0⟩ : ∃ b0, b0 = b % 16 := ⟨_, rfl⟩
      have x16 : X / 16 = 16 * b + f1 := by omega
      have xx : X = 256 * b + 16 * f1 + f0 := by omega
      have bb : b = 16 * b1 + b0 := by omega
      rw [← hb] at d3
      rw [← hf1] at d1
      rw [← hf0] at d0
      rw [← hb0] at d3
      have sum : X + X / 16 = 256 * (b + b1) + (16 * (f1 + b0) + (f0 + f1)) := by omega
      rw [← hf0, ← hf1, ← hb, ← hb1, sum]
      clear hb hf1 hf0 hb1 hb0 x16 xx bb sum
      have e1 : (256 * (b + b1) + (16 * (f1 + b0) + (f0 + f1))) / 256 = b + b1 := by omega
      have e2 : (256 * (b + b1) + (16 * (f1 + b0) + (f0 + f1))) % 256 = 16 * (f1 + b0) + (f0 + f1) := by omega
      have e3 : (16 * (f1 + b0) + (f0 + f1)) % 16 = f0 + f1 := by omega
      exact ⟨e1, by rw [e2, e3]⟩
    have e : (X + X / 16) &&& msk 8 15 (m + 1) = 256 * ((X / 256 + X / 256 / 16) &&& msk 8 15 m) + (X + X / 16) % 256 % 16 := by
      have := nd_split (s := 8) (a := (X + X / 16) % 256) (m := 15) (Y := (X + X / 16) / 256) (M := msk 8 15 m) (Nat.mod_lt _ (by decide)) (by decide)
      rw [show (2 : Nat) ^ 8 = 256 from rfl, Nat.div_add_mod, and15 _ (Nat.mod_lt _ (by decide))] at this
      rw [← low.1]
      exact this
    rw [e]
    generalize ((X / 256 + X / 256 / 16) &&& msk 8 15 m) = q at i1 i2 i3 ⊢
    rw [low.2]
    have ed : (256 * q + (X % 16 + X / 16 % 16)) / 256 = q := by omega
    refine ⟨?_, by omega, ⟨by omega, ?_⟩⟩
    · show (256 * q + (X % 16 + X / 16 % 16)) % 256 + sd 256 m ((256 * q + (X % 16 + X / 16 % 16)) / 256) = X % 16 + (X / 16 % 16 + sd 16 (2 * m) (X / 16 / 16))
      rw [ed, i1, show X / 16 / 16 = X / 256 by omega]
      omega
    · rw [ed]
      exact i3
