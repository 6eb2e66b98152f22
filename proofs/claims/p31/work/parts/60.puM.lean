/-- the stacks as they lie after n folds -/
def pL (kf : Nat → Nat) (n : Nat) (wid hei : Int32) (stk : Nat → Int32) : Prop :=
  wid = nI (fp_w kf n) ∧ hei = nI (fp_h kf n) ∧ ∀ c r i, c < fp_w kf n → r < fp_h kf n → i < 2 ^ n → stk ((r * fp_w kf n + c) * 2 ^ n + i) = nI (fp_us kf n c r i)
/-- a place among w * h * L -/
theorem pl_lt {c r i w h L : Nat} (hc : c < w) (hr : r < h) (hi : i < L) : (r * w + c) * L + i < w * h * L := by
  have h1 : r * w + c < w * h := by
    have : (r + 1) * w ≤ h * w := Nat.mul_le_mul_right w hr
    rw [Nat.add_mul, Nat.one_mul] at this
    rw [Nat.mul_comm w h]
    omega
  have h2 : (r * w + c + 1) * L ≤ w * h * L := Nat.mul_le_mul_right L h1
  rw [Nat.add_mul, Nat.one_mul] at h2
  omega
theorem pl_inj {c r i c' r' i' w L : Nat} (hc : c < w) (hc' : c' < w) (hi : i < L) (hi' : i' < L) (e : (r * w + c) * L + i = (r' * w + c') * L + i') : c = c' ∧ r = r' ∧ i = i' := by
  have hL : 0 < L := by omega
  have hw : 0 < w := by omega
  have e1 : r * w + c = r' * w + c' := by
    have a1 : ((r * w + c) * L + i) / L = r * w + c := by
      rw [Nat.mul_comm, Nat.mul_add_div hL, Nat.div_eq_of_lt hi, Nat.add_zero]
    have a2 : ((r' * w + c') * L + i') / L = r' * w + c' := by
      rw [Nat.mul_comm, Nat.mul_add_div hL, Nat.div_eq_of_lt hi', Nat.add_zero]
    rw [← a1, ← a2, e]
  have ei : i = i' := by rw [e1] at e; omega
  have er : r = r' := by
    have a1 : (r * w + c) / w = r := by
      rw [Nat.mul_comm, Nat.mul_add_div hw, Nat.div_eq_of_lt hc, Nat.add_zero]
    have a2 : (r' * w + c') / w = r' := by
      rw [Nat.mul_comm, Nat.mul_add_div hw, Nat.div_eq_of_lt hc', Nat.add_zero]
    rw [← a1, ← a2, e1]
  subst er
  exact ⟨by omega, rfl, ei⟩
/-- every place below 64 is a field's layer -/
theorem pl_onto (kf : Nat → Nat) (n : Nat) (ok : fp_ok kf n) (q : Nat) (hq : q < 64) : ∃ c r i, c < fp_w kf n ∧ r < fp_h kf n ∧ i < 2 ^ n ∧ q = (r * fp_w kf n + c) * 2 ^ n + i := by
  have e := fp_wh kf n ok
  have b1 := fp_w_b kf n ok
  have hL := fp_L_b (fp_ok_6 ok)
  have e1 : q = 2 ^ n * (q / 2 ^ n) + q % 2 ^ n := (Nat.div_add_mod q (2 ^ n)).symm
  have e2 : q / 2 ^ n = fp_w kf n * (q / 2 ^ n / fp_w kf n) + q / 2 ^ n % fp_w kf n := (Nat.div_add_mod _ _).symm
  refine ⟨q / 2 ^ n % fp_w kf n, q / 2 ^ n / fp_w kf n, q % 2 ^ n, Nat.mod_lt _ (by omega), ?_, Nat.mod_lt _ (by omega), ?_⟩
  · rw [Nat.div_div_eq_div_mul, Nat.div_lt_iff_lt_mul (Nat.mul_pos (by omega) (by omega))]
    rw [show fp_h kf n * (2 ^ n * fp_w kf n) = fp_w kf n * fp_h kf n * 2 ^ n by rw [Nat.mul_comm (fp_h kf n), Nat.mul_assoc, Nat.mul_comm (2 ^ n), Nat.mul_assoc]]
    omega
  · rw [Nat.mul_comm (q / 2 ^ n / fp_w kf n), ← e2, Nat.mul_comm]
    exact e1
