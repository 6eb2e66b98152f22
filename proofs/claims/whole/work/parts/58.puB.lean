def cB (x : Int64) : Nat := ct (ib x) 64
theorem pu_bitCount {x : Int64} {post : Int32 → Prop} (h : post (nI (cB x))) : wp_J13_bitCount_95d88 x post := by
  sorry
