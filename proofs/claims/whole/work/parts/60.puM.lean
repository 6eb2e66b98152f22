/-! the reference: its stacks -/
theorem pm_in {x lo hi : Int32} {post : Int32 → Prop} (h : post (bI (decide (lo ≤ x ∧ x ≤ hi)))) : wp_X6_in x lo hi post := by
  intro P hP
  by_cases h1 : x < lo
  · refine br_t h1 (hP ⟨Or.inl rfl, ?_⟩)
    rw [decide_eq_false (fun q => absurd q.1 (Int32.not_le.mpr h1))] at h
    exact h
  · refine br_f h1 ?_
    by_cases h2 : hi < x
    · refine br_t h2 (hP ⟨Or.inl rfl, ?_⟩)
      rw [decide_eq_false (fun q => absurd q.2 (Int32.not_le.mpr h2))] at h
      exact h
    · refine br_f h2 ⟨Or.inr rfl, ?_⟩
      rw [decide_eq_true ⟨Int32.not_lt.mp h1, Int32.not_lt.mp h2⟩] at h
      exact h
/-- in(x, 0, n - 1) -/
theorem pm_in0 {x hi : Int32} {post : Int32 → Prop} (n : Nat) (hn : 0 < n) (hn2 : n < 2 ^ 31) (hh : hi = nI (n - 1)) (h0 : (∀ j, j < n → x ≠ nI j) → post 0) (h1 : ∀ j, j < n → x = nI j → post 1) : wp_X6_in x (0 : Int32) hi post := by
  subst hh
  refine pm_in ?_
  rcases pu_rng x n hn2 with z | z | ⟨j, hj, rfl⟩
  · rw [decide_eq_false (fun q => absurd q.1 (Int32.not_le.mpr z))]
    exact h0 (fun j hj e => by subst e; exact nI_pos (by omega) z)
  · rw [decide_eq_false]
    · exact h0 (fun j hj e => by subst e; exact nI_ge hj (by omega) z)
    · intro q
      have q2 := Int32.le_iff_toInt_le.mp q.2
      have z2 := Int32.le_iff_toInt_le.mp z
      rw [nI_toInt (by omega)] at q2 z2
      omega
  · rw [decide_eq_true ⟨nI_pos' (by omega), nI_le (by omega) (by omega)⟩]
    exact h1 j hj rfl
theorem pm_field {post : Int32 → Prop} (c r w : Nat) (h : post (nI (r * w + c))) : wp_X6_field (nI c) (nI r) (nI w) post := by
  unfold wp_X6_field
  rw [pk_mul, nI_add]
  exact h
theorem pm_turned {post : Int32 → Prop} (x : Nat) (hx : x < 2 ^ 31) (h : post (nI (fp_tu x))) : wp_X6_turned (nI x) post := by
  unfold wp_X6_turned
  rw [show nI x - nI x / (2 : Int32) * (2 : Int32) = nI (x % 2) from pk_rem hx (by decide) (by decide)]
  unfold fp_tu at h
  refine ⟨fun z => ?_, fun z => ?_⟩
  · have hz : ¬ x % 2 = 0 := fun q => z (by rw [q]; rfl)
    rw [if_neg hz] at h
    rw [show nI x - (1 : Int32) = nI (x - 1) from pk_sub (b := 1) (by omega)]
    exact h
  · have hz : x % 2 = 0 := (nI_eq (a := x % 2) (b := 0) (by omega) (by omega)).mp z
    rw [if_pos hz] at h
    rw [pu_i1]
    exact h
theorem pm_layers {wid hei : Int32} {post : Int32 → Prop} (kf : Nat → Nat) (n : Nat) (ok : fp_ok kf n) (hw : wid = nI (fp_w kf n)) (hh : hei = nI (fp_h kf n)) (h : post (nI (2 ^ n))) : wp_X6_layers wid hei post := by
  subst hw hh
  have e := fp_wh kf n ok
  have b1 := fp_w_b kf n ok
  have b2 := fp_h_b kf n ok
  have hm : fp_w kf n * fp_h kf n ≤ 64 := by
    have := Nat.mul_le_mul b1.2 b2.2
    omega
  have hpos : 0 < fp_w kf n * fp_h kf n := Nat.mul_pos (by omega) (by omega)
  unfold wp_X6_layers
  rw [pk_mul]
  refine ⟨nI_ne0 hpos (by omega), ?_⟩
  rw [show (64 : Int32) / nI (fp_w kf n * fp_h kf n) = nI (64 / (fp_w kf n * fp_h kf n)) from pk_div (a := 64) (by omega) hpos (by omega)]
  rw [show 64 / (fp_w kf n * fp_h kf n) = 2 ^ n from Nat.div_eq_of_eq_mul_right hpos e.symm]
  exact h
/-- the stacks as they lie after n folds -/
def pL (kf : Nat → Nat) (n : Nat) (wid hei : Int32) (stk : Nat → Int32) : Prop :=
  wid = nI (fp_w kf n) ∧ hei = nI (fp_h kf n) ∧ ∀ c r i, c < fp_w kf n → r < fp_h kf n → i < 2 ^ n → stk ((r * fp_w kf n + c) * 2 ^ n + i) = nI (fp_us kf n c r i)
/-- a place among w * h * L -/
theorem pl_lt {c r i w h L : Nat} (hc : c < w) (hr : r < h) (hi : i < L) : (r * w + c) * L + i < w * h * L := by
  have h1 : r * w + c < w * h := by
    have : (r + 1) * w ≤ h * w := Nat.mul_le_mul_right w hr
    rw [Nat.add_mul, Nat.one_mul] at this
    rw [Nat.mul_comm w h]
    omega
  have h2 : (r * w + c + 1) * L ≤ w * h * L := Nat.mul_le_mul_right L h1
  rw [Nat.add_mul, Nat.one_mul] at h2
  omega
theorem pl_inj {c r i c' r' i' w L : Nat} (hc : c < w) (hc' : c' < w) (hi : i < L) (hi' : i' < L) (e : (r * w + c) * L + i = (r' * w + c') * L + i') : c = c' ∧ r = r' ∧ i = i' := by
  have hL : 0 < L := by omega
  have hw : 0 < w := by omega
  have e1 : r * w + c = r' * w + c' := by
    have a1 : ((r * w + c) * L + i) / L = r * w + c := by
      rw [Nat.mul_comm, Nat.mul_add_div hL, Nat.div_eq_of_lt hi, Nat.add_zero]
    have a2 : ((r' * w + c') * L + i') / L = r' * w + c' := by
      rw [Nat.mul_comm, Nat.mul_add_div hL, Nat.div_eq_of_lt hi', Nat.add_zero]
    rw [← a1, ← a2, e]
  have ei : i = i' := by rw [e1] at e; omega
  have er : r = r' := by
    have a1 : (r * w + c) / w = r := by
      rw [Nat.mul_comm, Nat.mul_add_div hw, Nat.div_eq_of_lt hc, Nat.add_zero]
    have a2 : (r' * w + c') / w = r' := by
      rw [Nat.mul_comm, Nat.mul_add_div hw, Nat.div_eq_of_lt hc', Nat.add_zero]
    rw [← a1, ← a2, e1]
  subst er
  exact ⟨by omega, rfl, ei⟩
/-- every place below 64 is a field's layer -/
theorem pl_onto (kf : Nat → Nat) (n : Nat) (ok : fp_ok kf n) (q : Nat) (hq : q < 64) : ∃ c r i, c < fp_w kf n ∧ r < fp_h kf n ∧ i < 2 ^ n ∧ q = (r * fp_w kf n + c) * 2 ^ n + i := by
  have e := fp_wh kf n ok
  have b1 := fp_w_b kf n ok
  have hL := fp_L_b (fp_ok_6 ok)
  have e1 : q = 2 ^ n * (q / 2 ^ n) + q % 2 ^ n := (Nat.div_add_mod q (2 ^ n)).symm
  have e2 : q / 2 ^ n = fp_w kf n * (q / 2 ^ n / fp_w kf n) + q / 2 ^ n % fp_w kf n := (Nat.div_add_mod _ _).symm
  refine ⟨q / 2 ^ n % fp_w kf n, q / 2 ^ n / fp_w kf n, q % 2 ^ n, Nat.mod_lt _ (by omega), ?_, Nat.mod_lt _ (by omega), ?_⟩
  · rw [Nat.div_div_eq_div_mul, Nat.div_lt_iff_lt_mul (Nat.mul_pos (by omega) (by omega))]
    rw [show fp_h kf n * (2 ^ n * fp_w kf n) = fp_w kf n * fp_h kf n * 2 ^ n by rw [Nat.mul_comm (fp_h kf n), Nat.mul_assoc, Nat.mul_comm (2 ^ n), Nat.mul_assoc]]
    omega
  · rw [Nat.mul_comm (q / 2 ^ n / fp_w kf n), ← e2, Nat.mul_comm]
    exact e1
