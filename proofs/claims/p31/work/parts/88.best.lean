/-- the class's trial folds, the reference's trial folds -/
def kC (a : Nat) : Nat → Nat := fun i => if i < a then 1 else 3
def kM (a : Nat) : Nat → Nat := fun i => if i < a then 0 else 2
theorem kC_lt (a i : Nat) : (kC a i < 2) ↔ i < a := by unfold kC; split <;> omega
theorem kM_lt (a i : Nat) : (kM a i < 2) ↔ i < a := by unfold kM; split <;> omega
theorem kM_pa (a : Nat) : ∀ n, fp_pa (kM a) n = fp_pa (kC a) n
  | 0 => rfl
  | n + 1 => by
    show fp_pa (kM a) n + (if kM a n < 2 then 1 else 0) = fp_pa (kC a) n + (if kC a n < 2 then 1 else 0)
    rw [kM_pa a n]
    simp only [kC_lt, kM_lt]
theorem kC_pa (a : Nat) : ∀ n, fp_pa (kC a) n = if n < a then n else a
  | 0 => by show 0 = _; split <;> omega
  | n + 1 => by
    show fp_pa (kC a) n + (if kC a n < 2 then 1 else 0) = _
    rw [kC_pa a n]
    simp only [kC_lt]
    split <;> split <;> (try split) <;> omega
theorem kC_ok {a b : Nat} (ha : a ≤ 3) (hb : b ≤ 3) : fp_ok (kC a) (a + b) := by
  refine ⟨fun i _ => by unfold kC; split <;> omega, ?_, ?_⟩ <;> rw [kC_pa] <;> split <;> omega
theorem kM_ok {a b : Nat} (ha : a ≤ 3) (hb : b ≤ 3) : fp_ok (kM a) (a + b) := by
  refine ⟨fun i _ => by unfold kM; split <;> omega, ?_, ?_⟩ <;> rw [kM_pa, kC_pa] <;> split <;> omega
theorem af_0 {x half : Nat} (h : x < 2 * half) : fp_af x half true (decide (x < half) == true) = if x < half then half - 1 - x else x - half := by
  unfold fp_af
  by_cases z : x < half
  · simp [z]; omega
  · simp [z]
theorem af_1 {x half : Nat} (h : x < 2 * half) : fp_af x half false (decide (x < half) == false) = if x < half then x else 2 * half - 1 - x := by
  unfold fp_af
  by_cases z : x < half
  · simp [z]
  · simp [z]
theorem kM_w (a n : Nat) : fp_w (kM a) n = fp_w (kC a) n := by unfold fp_w; rw [kM_pa]
theorem kM_h (a n : Nat) : fp_h (kM a) n = fp_h (kC a) n := by unfold fp_h; rw [kM_pa]
/-- the two trials: the same fields, seen from the other side -/
theorem kMC {a b : Nat} (ha : a ≤ 3) (hb : b ≤ 3) : ∀ n, n ≤ a + b → ∀ x, x < 64 →
    (if n = 0 ∨ a = 0 then (fp_pl (kM a) n x).1 = (fp_pl (kC a) n x).1 else (fp_pl (kM a) n x).1 + (fp_pl (kC a) n x).1 + 1 = fp_w (kC a) n) ∧
    (if n ≤ a then (fp_pl (kM a) n x).2.1 = (fp_pl (kC a) n x).2.1 else (fp_pl (kM a) n x).2.1 + (fp_pl (kC a) n x).2.1 + 1 = fp_h (kC a) n) := by
  intro n
  induction n with
  | zero =>
    intro _ x hx
    rw [if_pos (Or.inl rfl), if_pos (by omega)]
    exact ⟨rfl, rfl⟩
  | succ n ih =>
    intro hn x hx
    have okC := kC_ok ha hb
    have okM := kM_ok ha hb
    have oC := fp_ok_le _ hn okC
    have oM := fp_ok_le _ hn okM
    obtain ⟨i1, i2⟩ := ih (by omega) x hx
    have bC := fp_pl_b _ n x (fp_ok_p oC) hx
    have bM := fp_pl_b _ n x (fp_ok_p oM) hx
    rw [kM_w, kM_h] at bM
    have ws := fp_w_s oC
    have hs := fp_h_s oC
    have eC : fp_pl (kC a) (n + 1) x = _ := rfl
    by_cases z : n < a
    · have k1 : kC a n = 1 := by unfold kC; rw [if_pos z]
      have k0 : kM a n = 0 := by unfold kM; rw [if_pos z]
      rw [if_pos (by omega)] at ws hs
      have e1 : (fp_pl (kC a) (n + 1) x).1 = fp_af (fp_pl (kC a) n x).1 (fp_w (kC a) (n + 1)) false (decide ((fp_pl (kC a) n x).1 < fp_w (kC a) (n + 1)) == false) := by
        simp only [fp_pl, k1]; rfl
      have e2 : (fp_pl (kC a) (n + 1) x).2.1 = (fp_pl (kC a) n x).2.1 := by
        simp only [fp_pl, k1]; rfl
      have e3 : (fp_pl (kM a) (n + 1) x).1 = fp_af (fp_pl (kM a) n x).1 (fp_w (kC a) (n + 1)) true (decide ((fp_pl (kM a) n x).1 < fp_w (kC a) (n + 1)) == true) := by
        rw [← kM_w]
        simp only [fp_pl, k0]; rfl
      have e4 : (fp_pl (kM a) (n + 1) x).2.1 = (fp_pl (kM a) n x).2.1 := by
        simp only [fp_pl, k0]; rfl
      rw [e1, e2, e3, e4, af_0 (by omega), af_1 (by omega), if_neg (show ¬ (n + 1 = 0 ∨ a = 0) by omega), if_pos (show n + 1 ≤ a by omega)]
      rw [if_pos (show n ≤ a by omega)] at i2
      refine ⟨?_, i2⟩
      generalize (fp_pl (kM a) n x).1 = u at i1 bM ⊢
      generalize (fp_pl (kC a) n x).1 = v at i1 bC ⊢
      generalize fp_w (kC a) (n + 1) = w at ws ⊢
      rw [ws] at i1 bM bC
      have b1 := bC.1
      have b2 := bM.1
      clear i2 bC bM hs ws eC
      split at i1 <;> split <;> split <;> omega
    · have k1 : kC a n = 3 := by unfold kC; rw [if_neg z]
      have k0 : kM a n = 2 := by unfold kM; rw [if_neg z]
      rw [if_neg (by omega)] at ws hs
      have e1 : (fp_pl (kC a) (n + 1) x).2.1 = fp_af (fp_pl (kC a) n x).2.1 (fp_h (kC a) (n + 1)) false (decide ((fp_pl (kC a) n x).2.1 < fp_h (kC a) (n + 1)) == false) := by
        simp only [fp_pl, k1]; rfl
      have e2 : (fp_pl (kC a) (n + 1) x).1 = (fp_pl (kC a) n x).1 := by
        simp only [fp_pl, k1]; rfl
      have e3 : (fp_pl (kM a) (n + 1) x).2.1 = fp_af (fp_pl (kM a) n x).2.1 (fp_h (kC a) (n + 1)) true (decide ((fp_pl (kM a) n x).2.1 < fp_h (kC a) (n + 1)) == true) := by
        rw [← kM_h]
        simp only [fp_pl, k0]; rfl
      have e4 : (fp_pl (kM a) (n + 1) x).1 = (fp_pl (kM a) n x).1 := by
        simp only [fp_pl, k0]; rfl
      rw [e1, e2, e3, e4, af_0 (by omega), af_1 (by omega), if_neg (show ¬ n + 1 ≤ a by omega)]
      rw [ws] at i1
      constructor
      · by_cases q : a = 0
        · rw [if_pos (Or.inr q)] at i1 ⊢
          exact i1
        · rw [if_neg (show ¬ (n = 0 ∨ a = 0) by omega)] at i1
          rw [if_neg (show ¬ (n + 1 = 0 ∨ a = 0) by omega)]
          exact i1
      · generalize (fp_pl (kM a) n x).2.1 = u at i2 bM ⊢
        generalize (fp_pl (kC a) n x).2.1 = v at i2 bC ⊢
        generalize fp_h (kC a) (n + 1) = w at hs ⊢
        rw [hs] at i2 bM bC
        have b1 := bC.2.1
        have b2 := bM.2.1
        clear i1 bC bM hs ws eC
        split at i2 <;> split <;> split <;> omega
theorem pW_MC {a b : Nat} (ha : a ≤ 3) (hb : b ≤ 3) (g : Nat → Bool) : pW (kM a) (a + b) g = pW (kC a) (a + b) g := by
  have e : ∀ x, x < 64 → ∀ y, y < 64 → (sameP (kM a) (a + b) x y ↔ sameP (kC a) (a + b) x y) := fun x hx y hy => by
    obtain ⟨a1, a2⟩ := kMC ha hb (a + b) (Nat.le_refl _) x hx
    obtain ⟨b1, b2⟩ := kMC ha hb (a + b) (Nat.le_refl _) y hy
    unfold sameP
    refine ⟨fun ⟨z1, z2⟩ => ⟨?_, ?_⟩, fun ⟨z1, z2⟩ => ⟨?_, ?_⟩⟩
    · clear a2 b2; split at a1 <;> rename_i q <;> simp only [q, if_true, if_false] at b1 <;> omega
    · clear a1 b1; split at a2 <;> rename_i q <;> simp only [q, if_true, if_false] at b2 <;> omega
    · clear a2 b2; split at a1 <;> rename_i q <;> simp only [q, if_true, if_false] at b1 <;> omega
    · clear a1 b1; split at a2 <;> rename_i q <;> simp only [q, if_true, if_false] at b2 <;> omega
  unfold pW
  by_cases z : ∀ x, x < 64 → ∀ y, y < 64 → ((fp_pl (kC a) (a + b) x).1 = (fp_pl (kC a) (a + b) y).1 ∧ (fp_pl (kC a) (a + b) x).2.1 = (fp_pl (kC a) (a + b) y).2.1) → g x = g y
  · exact (if_pos (fun x hx y hy s => z x hx y hy ((e x hx y hy).mp s))).trans (if_pos z).symm
  · exact (if_neg (fun q => z (fun x hx y hy s => q x hx y hy ((e x hx y hy).mpr s)))).trans (if_neg z).symm
