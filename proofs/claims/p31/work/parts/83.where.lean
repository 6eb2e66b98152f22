theorem nI_n0 {n : Nat} (h : 0 < n) (h2 : n < 2 ^ 31) : ¬ nI n = 0 := fun q => by
  have := (nI_eq (b := 0) h2 (by omega)).mp q
  omega
