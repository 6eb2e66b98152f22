/-! to count -/
def ct (p : Nat → Bool) : Nat → Nat
  | 0 => 0
  | n + 1 => ct p n + if p n = true then 1 else 0
theorem ct_le (p : Nat → Bool) : ∀ n, ct p n ≤ n
  | 0 => Nat.le_refl 0
  | n + 1 => by
    have := ct_le p n
    unfold ct
    split <;> omega
theorem ct_congr {p q : Nat → Bool} : ∀ {n : Nat}, (∀ k, k < n → p k = q k) → ct p n = ct q n
  | 0, _ => rfl
  | n + 1, h => by
    unfold ct
    rw [ct_congr (fun k hk => h k (by omega)), h n (by omega)]
theorem ct_shift (p : Nat → Bool) : ∀ n, ct p (n + 1) = (if p 0 = true then 1 else 0) + ct (fun k => p (k + 1)) n
  | 0 => by simp [ct]
  | n + 1 => by
    rw [show ct p (n + 1 + 1) = ct p (n + 1) + if p (n + 1) = true then 1 else 0 from rfl, ct_shift p n, show ct (fun k => p (k + 1)) (n + 1) = ct (fun k => p (k + 1)) n + if p (n + 1) = true then 1 else 0 from rfl]
    omega
