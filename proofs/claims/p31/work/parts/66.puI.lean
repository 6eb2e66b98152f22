/-! the reference: ink, mend, looks -/
def qInk (p : Pap) (s : Nat) (v : Int32) : Pap := (qn p, qf p, qp p, fun j => if j = s then v else qc p j, qg p)
def qMend (p : Pap) (x : Nat) : Pap := (qn p, qf p, fun y => qp p y && !decide (y = x), fun j => if j / 2 = x then 0 else qc p j, qg p)
/-- bits of a row, as a number -/
def rowN (f : Nat → Bool) : Nat → Nat
  | 0 => 0
  | n + 1 => rowN f n + if f n = true then 2 ^ n else 0
theorem rowN_lt (f : Nat → Bool) : ∀ n, rowN f n < 2 ^ n
  | 0 => Nat.one_pos
  | n + 1 => by
    have := rowN_lt f n
    rw [Nat.pow_succ]
    unfold rowN
    split <;> omega
theorem rowN_bit (f : Nat → Bool) : ∀ n i, i < n → (rowN f n).testBit i = f i
  | 0, i, h => absurd h (by omega)
  | n + 1, i, h => by
    have lt := rowN_lt f n
    have e : rowN f (n + 1) = 2 ^ n * (if f n = true then 1 else 0) + rowN f n := by
      show rowN f n + (if f n = true then 2 ^ n else 0) = _
      split <;> omega
    rw [e, Nat.testBit_two_pow_mul_add _ lt]
    by_cases z : i < n
    · rw [if_pos z]
      exact rowN_bit f n i z
    · have : i = n := by omega
      subst this
      rw [if_neg (by omega), Nat.sub_self]
      cases f i <;> rfl
theorem rowN_of {f : Nat → Bool} {n m : Nat} (hm : m < 2 ^ n) (h : ∀ i, i < n → m.testBit i = f i) : m = rowN f n := by
  apply Nat.eq_of_testBit_eq
  intro i
  by_cases z : i < n
  · rw [h i z, rowN_bit f n i z]
  · rw [Nat.testBit_lt_two_pow (Nat.lt_of_lt_of_le hm (Nat.pow_le_pow_right (by decide) (by omega))), Nat.testBit_lt_two_pow (Nat.lt_of_lt_of_le (rowN_lt f n) (Nat.pow_le_pow_right (by decide) (by omega)))]
