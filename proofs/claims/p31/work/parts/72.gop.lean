/-! the relation between the class's numbers and the reference's, and the facts of the calls -/
theorem hLen_le (k : Nat) : hLen k ≤ 5 := by
  unfold hLen
  split <;> omega
