/-! punches: the maths -/
theorem ct_ne0 {p : Nat → Bool} : ∀ {n : Nat}, ct p n ≠ 0 → ∃ i, i < n ∧ p i = true
  | 0, h => absurd rfl h
  | n + 1, h => by
    by_cases z : p n = true
    · exact ⟨n, by omega, z⟩
    · have e : ct p (n + 1) = ct p n := by
        show ct p n + (if p n = true then 1 else 0) = ct p n
        rw [if_neg z, Nat.add_zero]
      obtain ⟨i, hi, e2⟩ := ct_ne0 (fun q => h (by rw [e]; exact q))
      exact ⟨i, by omega, e2⟩
theorem ct_neL {p : Nat → Bool} : ∀ {n : Nat}, ct p n ≠ n → ∃ i, i < n ∧ p i = false
  | 0, h => absurd rfl h
  | n + 1, h => by
    by_cases z : p n = true
    · have e : ct p (n + 1) = ct p n + 1 := by
        show ct p n + (if p n = true then 1 else 0) = ct p n + 1
        rw [if_pos z]
      obtain ⟨i, hi, e2⟩ := ct_neL (p := p) (n := n) (fun q => h (by rw [e, q]))
      exact ⟨i, by omega, e2⟩
    · exact ⟨n, by omega, by simpa using z⟩
theorem ct_0 {p : Nat → Bool} {n : Nat} (h : ct p n = 0) {i : Nat} (hi : i < n) : p i = false := by
  induction n with
  | zero => omega
  | succ n ih =>
    have e : ct p (n + 1) = ct p n + (if p n = true then 1 else 0) := rfl
    by_cases z : p n = true
    · rw [if_pos z] at e; omega
    · rw [if_neg z] at e
      by_cases q : i = n
      · subst q; simpa using z
      · exact ih (by omega) (by omega)
theorem ct_L {p : Nat → Bool} {n : Nat} (h : ct p n = n) {i : Nat} (hi : i < n) : p i = true := by
  induction n with
  | zero => omega
  | succ n ih =>
    have e : ct p (n + 1) = ct p n + (if p n = true then 1 else 0) := rfl
    have l := ct_le p n
    by_cases z : p n = true
    · rw [if_pos z] at e
      by_cases q : i = n
      · subst q; exact z
      · exact ih (by omega) (by omega)
    · rw [if_neg z] at e; omega
theorem ct_add (p : Nat → Bool) (a : Nat) : ∀ b, ct p (a + b) = ct p a + ct (fun i => p (a + i)) b
  | 0 => rfl
  | b + 1 => by
    show ct p (a + b) + (if p (a + b) = true then 1 else 0) = ct p a + (ct (fun i => p (a + i)) b + (if p (a + b) = true then 1 else 0))
    rw [ct_add p a b]
    omega
theorem ct_not (p : Nat → Bool) : ∀ n, ct p n + ct (fun i => !p i) n = n
  | 0 => rfl
  | n + 1 => by
    show (ct p n + (if p n = true then 1 else 0)) + (ct (fun i => !p i) n + (if (!p n) = true then 1 else 0)) = n + 1
    have := ct_not p n
    cases p n <;> simp <;> omega
/-- one place taken out -/
theorem ct_out (f : Nat → Bool) (k : Nat) : ∀ m, k < m → ct (fun x => decide (x ≠ k) && f x) m + (if f k = true then 1 else 0) = ct f m
  | 0, h => absurd h (by omega)
  | m + 1, h => by
    show (ct (fun x => decide (x ≠ k) && f x) m + (if (decide (m ≠ k) && f m) = true then 1 else 0)) + (if f k = true then 1 else 0) = ct f m + (if f m = true then 1 else 0)
    by_cases z : m = k
    · subst z
      have : ct (fun x => decide (x ≠ m) && f x) m = ct f m := ct_congr (fun x hx => by
        have : x ≠ m := by omega
        simp [this])
      rw [this]
      simp
    · have := ct_out f k m (by omega)
      have e : (decide (m ≠ k) && f m) = f m := by simp [z]
      rw [e]
      omega
theorem ct_inj_le : ∀ (n m : Nat) (f : Nat → Bool) (s : Nat → Nat), (∀ j, j < n → s j < m) → (∀ j j', j < n → j' < n → s j = s j' → j = j') → ct (fun j => f (s j)) n ≤ ct f m
  | 0, m, f, s, _, _ => Nat.zero_le _
  | n + 1, m, f, s, h1, h2 => by
    show ct (fun j => f (s j)) n + (if f (s n) = true then 1 else 0) ≤ ct f m
    rw [← ct_out f (s n) m (h1 n (by omega))]
    have e : ct (fun j => f (s j)) n = ct (fun j => (fun x => decide (x ≠ s n) && f x) (s j)) n := ct_congr (fun j hj => by
      have : s j ≠ s n := fun q => by
        have := h2 j n (by omega) (by omega) q
        omega
      simp [this])
    rw [e]
    have := ct_inj_le n m (fun x => decide (x ≠ s n) && f x) s (fun j hj => h1 j (by omega)) (fun j j' hj hj' q => h2 j j' (by omega) (by omega) q)
    exact Nat.add_le_add_right this _
theorem ct_perm (n : Nat) (f : Nat → Bool) (s : Nat → Nat) (h1 : ∀ j, j < n → s j < n) (h2 : ∀ j j', j < n → j' < n → s j = s j' → j = j') : ct (fun j => f (s j)) n = ct f n := by
  have a := ct_inj_le n n f s h1 h2
  have b : ct (fun j => !f (s j)) n ≤ ct (fun x => !f x) n := ct_inj_le n n (fun x => !f x) s h1 h2
  have c := ct_not f n
  have d : ct (fun j => f (s j)) n + ct (fun j => !f (s j)) n = n := ct_not (fun j => f (s j)) n
  omega
/-- blocks of L: each none or all -/
theorem ct_blocks (p : Nat → Bool) (L : Nat) (hL : 0 < L) (F : Nat → Nat) : ∀ N, (∀ q, q < N → F q = ct (fun i => p (q * L + i)) L) → (∀ q, q < N → F q = 0 ∨ F q = L) → ct p (N * L) = L * ct (fun q => decide (F q = L)) N
  | 0, _, _ => by simp [ct]
  | N + 1, h, h2 => by
    rw [show (N + 1) * L = N * L + L by rw [Nat.add_mul, Nat.one_mul], ct_add, ct_blocks p L hL F N (fun q hq => h q (by omega)) (fun q hq => h2 q (by omega)), ← h N (by omega)]
    show _ = L * (ct (fun q => decide (F q = L)) N + if decide (F N = L) = true then 1 else 0)
    rcases h2 N (by omega) with e | e
    · rw [e, if_neg (by simp; omega), Nat.add_zero, Nat.add_zero]
    · rw [e, if_pos (by simp), Nat.mul_add, Nat.mul_one]
/-- wanted cells in a field -/
def mF (kf : Nat → Nat) (n : Nat) (g : Nat → Bool) (c r : Nat) : Nat := ct (fun i => g (fp_us kf n c r i / 2)) (2 ^ n)
def sameP (kf : Nat → Nat) (n x y : Nat) : Prop := (fp_pl kf n x).1 = (fp_pl kf n y).1 ∧ (fp_pl kf n x).2.1 = (fp_pl kf n y).2.1
def pW (kf : Nat → Nat) (n : Nat) (g : Nat → Bool) : Int32 := if ∀ x, x < 64 → ∀ y, y < 64 → ((fp_pl kf n x).1 = (fp_pl kf n y).1 ∧ (fp_pl kf n x).2.1 = (fp_pl kf n y).2.1) → g x = g y then nI (ct g 64 / 2 ^ n) else -6
theorem pW_bad {kf : Nat → Nat} {n : Nat} (ok : fp_ok kf n) {g : Nat → Bool} {c r : Nat} (hc : c < fp_w kf n) (hr : r < fp_h kf n) (h0 : mF kf n g c r ≠ 0) (hL : mF kf n g c r ≠ 2 ^ n) : pW kf n g = -6 := by
  obtain ⟨i, hi, e⟩ := ct_ne0 h0
  obtain ⟨i', hi', e'⟩ := ct_neL hL
  unfold pW
  refine if_neg (fun q => ?_)
  have u := fp_us_lt _ _ c r i ok hc hr hi
  have u' := fp_us_lt _ _ c r i' ok hc hr hi'
  have s : sameP kf n (fp_us kf n c r i / 2) (fp_us kf n c r i' / 2) := by
    unfold sameP
    rw [fp_pl_us kf n c r i ok hc hr hi, fp_pl_us kf n c r i' ok hc hr hi']
    exact ⟨rfl, rfl⟩
  have := q _ (by omega) _ (by omega) s
  rw [e, e'] at this
  exact absurd this (by decide)
theorem pW_good {kf : Nat → Nat} {n : Nat} (ok : fp_ok kf n) {g : Nat → Bool} (F : Nat → Nat) (hF : ∀ r c, r < fp_h kf n → c < fp_w kf n → F (r * fp_w kf n + c) = mF kf n g c r) (h : ∀ q, q < fp_w kf n * fp_h kf n → F q = 0 ∨ F q = 2 ^ n) :
    pW kf n g = nI (ct (fun q => decide (F q = 2 ^ n)) (fp_w kf n * fp_h kf n)) := by
  have bL := (fp_L_b (fp_ok_6 ok)).1
  have bw := fp_w_b _ _ ok
  have bh := fp_h_b _ _ ok
  have wh := fp_wh _ _ ok
  have hq : ∀ q, q < fp_w kf n * fp_h kf n → q % fp_w kf n < fp_w kf n ∧ q / fp_w kf n < fp_h kf n ∧ q / fp_w kf n * fp_w kf n + q % fp_w kf n = q := fun q hq => ⟨Nat.mod_lt _ (by omega), Nat.div_lt_of_lt_mul hq, by rw [Nat.mul_comm]; exact Nat.div_add_mod q _⟩
  have hF' : ∀ q, q < fp_w kf n * fp_h kf n → F q = mF kf n g (q % fp_w kf n) (q / fp_w kf n) := fun q hq' => by
    obtain ⟨a, b, c⟩ := hq q hq'
    have := hF _ _ b a
    rw [c] at this
    exact this
  unfold pW
  rw [if_pos (fun x hx y hy s => ?_)]
  · have hj : ∀ j, j < 64 → j / 2 ^ n < fp_w kf n * fp_h kf n ∧ j % 2 ^ n < 2 ^ n := fun j hj => ⟨Nat.div_lt_of_lt_mul (by rw [Nat.mul_comm]; omega), Nat.mod_lt _ (by omega)⟩
    let s : Nat → Nat := fun j => fp_us kf n (j / 2 ^ n % fp_w kf n) (j / 2 ^ n / fp_w kf n) (j % 2 ^ n) / 2
    have p1 : ∀ j, j < 64 → s j < 64 := fun j h' => by
      obtain ⟨a, b⟩ := hj j h'
      obtain ⟨c, d, _⟩ := hq _ a
      have := fp_us_lt kf n _ _ _ ok c d b
      show fp_us kf n _ _ _ / 2 < 64
      omega
    have p2 : ∀ j j', j < 64 → j' < 64 → s j = s j' → j = j' := fun j j' h1 h2 e => by
      obtain ⟨a, b⟩ := hj j h1
      obtain ⟨a', b'⟩ := hj j' h2
      obtain ⟨c, d, e1⟩ := hq _ a
      obtain ⟨c', d', e1'⟩ := hq _ a'
      have u := fp_pl_us kf n _ _ _ ok c d b
      have u' := fp_pl_us kf n _ _ _ ok c' d' b'
      have e2 : fp_us kf n (j / 2 ^ n % fp_w kf n) (j / 2 ^ n / fp_w kf n) (j % 2 ^ n) / 2 = fp_us kf n (j' / 2 ^ n % fp_w kf n) (j' / 2 ^ n / fp_w kf n) (j' % 2 ^ n) / 2 := e
      rw [e2] at u
      rw [u] at u'
      have a1 := congrArg (fun q => q.1) u'
      have a2 := congrArg (fun q => q.2.1) u'
      have a3 := congrArg (fun q => q.2.2.1) u'
      simp only at a1 a2 a3
      rw [a1, a2, e1'] at e1
      have m1 := Nat.div_add_mod j (2 ^ n)
      have m2 := Nat.div_add_mod j' (2 ^ n)
      rw [← e1, a3] at m1
      omega
    have e := ct_perm 64 g s p1 p2
    have e2 := ct_blocks (fun j => g (s j)) (2 ^ n) (by omega) F (fp_w kf n * fp_h kf n) (fun q hq' => ?_) h
    · rw [wh, e] at e2
      rw [e2, Nat.mul_div_cancel_left _ (by omega)]
    · rw [hF' q hq']
      refine ct_congr (fun i hi => ?_)
      show g (fp_us kf n (q % fp_w kf n) (q / fp_w kf n) i / 2) = g (fp_us kf n ((q * 2 ^ n + i) / 2 ^ n % fp_w kf n) ((q * 2 ^ n + i) / 2 ^ n / fp_w kf n) ((q * 2 ^ n + i) % 2 ^ n) / 2)
      have d1 : (q * 2 ^ n + i) / 2 ^ n = q := by rw [Nat.mul_comm, Nat.mul_add_div (by omega), Nat.div_eq_of_lt hi, Nat.add_zero]
      have d2 : (q * 2 ^ n + i) % 2 ^ n = i := by rw [Nat.mul_comm, Nat.mul_add_mod, Nat.mod_eq_of_lt hi]
      rw [d1, d2]
  · have val : ∀ x, x < 64 → ∃ i, i < 2 ^ n ∧ fp_us kf n (fp_pl kf n x).1 (fp_pl kf n x).2.1 i / 2 = x := fun x hx => by
      have b := fp_pl_b kf n x ok hx
      refine ⟨_, b.2.2.1, ?_⟩
      rw [fp_us_pl kf n x ok hx]
      omega
    obtain ⟨i, hi, ex⟩ := val x hx
    obtain ⟨i', hi', ey⟩ := val y hy
    have b := fp_pl_b kf n x ok hx
    rw [← s.1, ← s.2] at ey
    have lt : (fp_pl kf n x).2.1 * fp_w kf n + (fp_pl kf n x).1 < fp_w kf n * fp_h kf n := by
      have := pl_lt (L := 1) (i := 0) b.1 b.2.1 (by omega)
      omega
    have hf := hF _ _ b.2.1 b.1
    rcases h _ lt with z | z
    · rw [hf] at z
      have a1 := ct_0 z hi
      have a2 := ct_0 z hi'
      simp only [ex, ey] at a1 a2
      rw [a1, a2]
    · rw [hf] at z
      have a1 := ct_L z hi
      have a2 := ct_L z hi'
      simp only [ex, ey] at a1 a2
      rw [a1, a2]
