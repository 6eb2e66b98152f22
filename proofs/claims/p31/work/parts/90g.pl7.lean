/-! cells of a set by fields: the maths -/
def pos (kf : Nat → Nat) (n x : Nat) : Nat := (fp_pl kf n x).1 + 8 * (fp_pl kf n x).2.1
theorem pos_lt {kf : Nat → Nat} {n x : Nat} (ok : fp_ok kf n) (hx : x < 64) : pos kf n x < 64 := by
  have b := fp_pl_b kf n x ok hx
  have w := fp_w_b kf n ok
  have h := fp_h_b kf n ok
  unfold pos
  omega
def wK (kf : Nat → Nat) (n : Nat) (g : Nat → Bool) (m k : Nat) : Nat := ct (fun x => g x && decide (pos kf n x = k)) m
def sm (F : Nat → Nat) : Nat → Nat
  | 0 => 0
  | n + 1 => sm F n + F n
theorem sm_congr {F G : Nat → Nat} : ∀ {n : Nat}, (∀ k, k < n → F k = G k) → sm F n = sm G n
  | 0, _ => rfl
  | n + 1, h => by
    show sm F n + F n = sm G n + G n
    rw [sm_congr (fun k hk => h k (by omega)), h n (by omega)]
theorem sm_add (F G : Nat → Nat) : ∀ n, sm (fun k => F k + G k) n = sm F n + sm G n
  | 0 => rfl
  | n + 1 => by
    show sm (fun k => F k + G k) n + (F n + G n) = (sm F n + F n) + (sm G n + G n)
    rw [sm_add F G n]
    omega
theorem sm_one (b : Bool) (p : Nat) : ∀ n, sm (fun k => if (b && decide (p = k)) = true then 1 else 0) n = if b = true ∧ p < n then 1 else 0
  | 0 => by
    rw [if_neg (by omega)]
    rfl
  | n + 1 => by
    show sm (fun k => if (b && decide (p = k)) = true then 1 else 0) n + (if (b && decide (p = n)) = true then 1 else 0) = _
    rw [sm_one b p n]
    cases b
    · simp
    · by_cases z : p = n
      · subst z
        simp
      · by_cases q : p < n
        · rw [if_pos ⟨rfl, q⟩, if_neg (by simp [z]), if_pos ⟨rfl, by omega⟩]
        · rw [if_neg (fun h => q h.2), if_neg (by simp [z]), if_neg (fun h => by have := h.2; omega)]
theorem sm_wK {kf : Nat → Nat} {n : Nat} (ok : fp_ok kf n) (g : Nat → Bool) : ∀ m, m ≤ 64 → sm (wK kf n g m) 64 = ct g m
  | 0, _ => by
    have : ∀ N, sm (wK kf n g 0) N = 0 := fun N => by
      induction N with
      | zero => rfl
      | succ N ih =>
        show sm (wK kf n g 0) N + wK kf n g 0 N = 0
        rw [ih]
        rfl
    exact this 64
  | m + 1, h => by
    have e : sm (wK kf n g (m + 1)) 64 = sm (fun k => wK kf n g m k + (if (g m && decide (pos kf n m = k)) = true then 1 else 0)) 64 := sm_congr (fun k _ => rfl)
    rw [e, sm_add, sm_wK ok g m (by omega), sm_one]
    show _ = ct g m + (if g m = true then 1 else 0)
    have l := pos_lt ok (x := m) (by omega)
    congr 1
    by_cases z : g m = true
    · rw [if_pos z, if_pos ⟨z, l⟩]
    · rw [if_neg z, if_neg (fun q => z q.1)]
theorem sm_L {F : Nat → Nat} {L : Nat} (hL : 0 < L) : ∀ {n : Nat}, (∀ k, k < n → F k = 0 ∨ F k = L) → sm F n = L * ct (fun k => decide (0 < F k)) n
  | 0, _ => rfl
  | n + 1, h => by
    show sm F n + F n = L * (ct (fun k => decide (0 < F k)) n + if decide (0 < F n) = true then 1 else 0)
    rw [sm_L hL (fun k hk => h k (by omega))]
    rcases h n (by omega) with e | e
    · rw [e, if_neg (by decide)]
      rfl
    · rw [if_pos (by rw [e]; exact decide_eq_true hL), e, Nat.mul_add, Nat.mul_one]
theorem ct_all {p : Nat → Bool} : ∀ {n : Nat}, (∀ k, k < n → p k = true) → ct p n = n
  | 0, _ => rfl
  | n + 1, h => by
    show ct p n + (if p n = true then 1 else 0) = n + 1
    rw [ct_all (fun k hk => h k (by omega)), if_pos (h n (by omega))]
/-- no more cells in a field than layers -/
theorem wK_le {kf : Nat → Nat} {n : Nat} (ok : fp_ok kf n) (k : Nat) : ct (fun x => decide (pos kf n x = k)) 64 ≤ 2 ^ n := by
  let s : Nat → Nat := fun x => if pos kf n x = k then (fp_pl kf n x).2.2.1 else 2 ^ n + x
  have s1 : ∀ x, x < 64 → s x < 2 ^ n + 64 := fun x hx => by
    have b := fp_pl_b kf n x ok hx
    show (if pos kf n x = k then (fp_pl kf n x).2.2.1 else 2 ^ n + x) < 2 ^ n + 64
    split <;> omega
  have s2 : ∀ x y, x < 64 → y < 64 → s x = s y → x = y := fun x y hx hy e => by
    have bx := fp_pl_b kf n x ok hx
    have by' := fp_pl_b kf n y ok hy
    have w := fp_w_b kf n ok
    have h := fp_h_b kf n ok
    have e' : (if pos kf n x = k then (fp_pl kf n x).2.2.1 else 2 ^ n + x) = (if pos kf n y = k then (fp_pl kf n y).2.2.1 else 2 ^ n + y) := e
    by_cases zx : pos kf n x = k
    · by_cases zy : pos kf n y = k
      · rw [if_pos zx, if_pos zy] at e'
        have q := fp_us_pl kf n x ok hx
        have q2 := fp_us_pl kf n y ok hy
        unfold pos at zx zy
        have a1 : (fp_pl kf n x).1 = (fp_pl kf n y).1 := by omega
        have a2 : (fp_pl kf n x).2.1 = (fp_pl kf n y).2.1 := by omega
        rw [a1, a2, e', q2] at q
        omega
      · rw [if_pos zx, if_neg zy] at e'
        omega
    · by_cases zy : pos kf n y = k
      · rw [if_neg zx, if_pos zy] at e'
        omega
      · rw [if_neg zx, if_neg zy] at e'
        omega
  have i := ct_inj_le 64 (2 ^ n + 64) (fun j => decide (j < 2 ^ n)) s s1 s2
  have e1 : ct (fun x => decide (s x < 2 ^ n)) 64 = ct (fun x => decide (pos kf n x = k)) 64 := ct_congr (fun x hx => by
    have b := fp_pl_b kf n x ok hx
    refine decide_eq_decide.mpr ?_
    show (if pos kf n x = k then (fp_pl kf n x).2.2.1 else 2 ^ n + x) < 2 ^ n ↔ _
    split
    · rename_i z
      exact ⟨fun _ => z, fun _ => by omega⟩
    · rename_i z
      exact ⟨fun q => by omega, fun q => absurd q z⟩)
  have e2 : ct (fun j => decide (j < 2 ^ n)) (2 ^ n + 64) = 2 ^ n := by
    rw [ct_add, ct_all (fun k hk => decide_eq_true hk), ct_none (fun k hk => decide_eq_false (by omega))]
    rfl
  have i' : ct (fun x => decide (s x < 2 ^ n)) 64 ≤ ct (fun j => decide (j < 2 ^ n)) (2 ^ n + 64) := i
  omega
theorem wK_ge {kf : Nat → Nat} {n : Nat} (ok : fp_ok kf n) (g : Nat → Bool) {c r : Nat} (hc : c < fp_w kf n) (hr : r < fp_h kf n) : mF kf n g c r ≤ wK kf n g 64 (c + 8 * r) := by
  have i := ct_inj_le (2 ^ n) 64 (fun x => g x && decide (pos kf n x = c + 8 * r)) (fun i => fp_us kf n c r i / 2) (fun i hi => by
    have := fp_us_lt kf n c r i ok hc hr hi
    show fp_us kf n c r i / 2 < 64
    omega) (fun i j hi hj e => by
    have e' : fp_us kf n c r i / 2 = fp_us kf n c r j / 2 := e
    have a := fp_pl_us kf n c r i ok hc hr hi
    have b := fp_pl_us kf n c r j ok hc hr hj
    rw [e'] at a
    rw [a] at b
    have := congrArg (fun q => q.2.2.1) b
    exact this)
  have e : ct (fun j => (fun x => g x && decide (pos kf n x = c + 8 * r)) (fp_us kf n c r j / 2)) (2 ^ n) = mF kf n g c r := ct_congr (fun i hi => by
    have a := fp_pl_us kf n c r i ok hc hr hi
    show (g (fp_us kf n c r i / 2) && decide (pos kf n (fp_us kf n c r i / 2) = c + 8 * r)) = g (fp_us kf n c r i / 2)
    unfold pos
    rw [a, decide_eq_true rfl, Bool.and_true])
  rw [← e]
  exact i
theorem wK_mF {kf : Nat → Nat} {n : Nat} (ok : fp_ok kf n) (g : Nat → Bool) {c r : Nat} (hc : c < fp_w kf n) (hr : r < fp_h kf n) : wK kf n g 64 (c + 8 * r) = mF kf n g c r := by
  have a := wK_ge ok g hc hr
  have b := wK_ge ok (fun x => !g x) hc hr
  have d := ct_not (fun i => g (fp_us kf n c r i / 2)) (2 ^ n)
  have e : ∀ m, wK kf n g m (c + 8 * r) + wK kf n (fun x => !g x) m (c + 8 * r) = ct (fun x => decide (pos kf n x = c + 8 * r)) m := fun m => by
    induction m with
    | zero => rfl
    | succ m ih =>
      show (wK kf n g m (c + 8 * r) + (if (g m && decide (pos kf n m = c + 8 * r)) = true then 1 else 0)) + (wK kf n (fun x => !g x) m (c + 8 * r) + (if (!g m && decide (pos kf n m = c + 8 * r)) = true then 1 else 0)) = ct (fun x => decide (pos kf n x = c + 8 * r)) m + (if decide (pos kf n m = c + 8 * r) = true then 1 else 0)
      rw [← ih]
      cases g m <;> cases decide (pos kf n m = c + 8 * r) <;> simp <;> omega
  have f := e 64
  have l := wK_le ok (c + 8 * r)
  have d' : mF kf n g c r + mF kf n (fun x => !g x) c r = 2 ^ n := d
  omega
theorem wK_0 {kf : Nat → Nat} {n : Nat} (ok : fp_ok kf n) (g : Nat → Bool) {k : Nat} (h : ¬ (k % 8 < fp_w kf n ∧ k / 8 < fp_h kf n)) : wK kf n g 64 k = 0 := ct_none (fun x hx => by
  have b := fp_pl_b kf n x ok hx
  have w := fp_w_b kf n ok
  rw [decide_eq_false (fun q => h (by unfold pos at q; omega)), Bool.and_false])
/-- what the law takes for NONE -/
def pV (kf : Nat → Nat) (n : Nat) (g : Nat → Bool) : Int32 := if pW kf n g = -6 then -1 else pW kf n g
theorem pV_bad {kf : Nat → Nat} {n : Nat} (ok : fp_ok kf n) {g : Nat → Bool} {k : Nat} (h0 : 0 < wK kf n g 64 k) (hL : wK kf n g 64 k < 2 ^ n) : pV kf n g = -1 := by
  by_cases z : k % 8 < fp_w kf n ∧ k / 8 < fp_h kf n
  · have e := wK_mF ok g z.1 z.2
    rw [show k % 8 + 8 * (k / 8) = k by omega] at e
    unfold pV
    rw [if_pos (pW_bad ok z.1 z.2 (by omega) (by omega))]
  · rw [wK_0 ok g z] at h0
    omega
theorem pV_good {kf : Nat → Nat} {n : Nat} (ok : fp_ok kf n) {g : Nat → Bool} (h : ∀ k, k < 64 → wK kf n g 64 k = 0 ∨ wK kf n g 64 k = 2 ^ n) : pV kf n g = nI (ct (fun k => decide (0 < wK kf n g 64 k)) 64) := by
  have bL := (fp_L_b (fp_ok_6 ok)).1
  have bw := fp_w_b _ _ ok
  have bh := fp_h_b _ _ ok
  let F : Nat → Nat := fun q => mF kf n g (q % fp_w kf n) (q / fp_w kf n)
  have hF : ∀ r c, r < fp_h kf n → c < fp_w kf n → F (r * fp_w kf n + c) = mF kf n g c r := fun r c hr hc => by
    show mF kf n g ((r * fp_w kf n + c) % fp_w kf n) ((r * fp_w kf n + c) / fp_w kf n) = _
    rw [Nat.mul_comm, Nat.mul_add_mod, Nat.mod_eq_of_lt hc, Nat.mul_add_div (by omega), Nat.div_eq_of_lt hc, Nat.add_zero]
  have e := pW_good ok F hF (fun q hq => by
    have hc : q % fp_w kf n < fp_w kf n := Nat.mod_lt _ (by omega)
    have hr : q / fp_w kf n < fp_h kf n := Nat.div_lt_of_lt_mul hq
    show mF kf n g (q % fp_w kf n) (q / fp_w kf n) = 0 ∨ mF kf n g (q % fp_w kf n) (q / fp_w kf n) = 2 ^ n
    rw [← wK_mF ok g hc hr]
    exact h _ (by omega))
  have ne : pW kf n g ≠ -6 := by
    rw [e]
    have l := ct_le (fun q => decide (F q = 2 ^ n)) (fp_w kf n * fp_h kf n)
    have wh := q64 (fp_wh kf n ok)
    exact pm_ne6 (by omega)
  have e2 : pW kf n g = nI (ct g 64 / 2 ^ n) := by
    unfold pW at ne ⊢
    split
    · rfl
    · rename_i z
      rw [if_neg z] at ne
      exact absurd rfl ne
  unfold pV
  rw [if_neg ne, e2]
  congr 1
  rw [← sm_wK ok g 64 (Nat.le_refl _), sm_L bL h, Nat.mul_div_cancel_left _ bL]
