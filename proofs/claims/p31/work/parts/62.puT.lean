theorem qw_b {p : Pap} (ok : fp_ok (qf p) (qn p)) : 1 ≤ qw p ∧ qw p ≤ 8 := fp_w_b _ _ ok
theorem qh_b {p : Pap} (ok : fp_ok (qf p) (qn p)) : 1 ≤ qh p ∧ qh p ≤ 8 := fp_h_b _ _ ok
theorem qwh {p : Pap} (ok : fp_ok (qf p) (qn p)) : qw p * qh p * 2 ^ qn p = 64 := fp_wh _ _ ok
theorem pm_lt_top {p : Pap} (ok : fp_ok (qf p) (qn p)) {c r i : Nat} (hc : c < qw p) (hr : r < qh p) (hi : i < 2 ^ qn p) : (r * qw p + c) * 2 ^ qn p + i < 64 := by
  have := pl_lt hc hr hi
  have := qwh ok
  omega
