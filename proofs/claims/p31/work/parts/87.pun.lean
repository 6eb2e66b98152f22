/-! punches: class and reference -/
theorem fp_in_iff {kf : Nat → Nat} {n c r : Nat} : ∀ {d y : Nat}, fp_in kf n c r d y = true ↔ ∃ i, i < d ∧ fp_us kf n c r i / 2 = y
  | 0, y => ⟨fun h => absurd h (by simp [fp_in]), fun ⟨i, hi, _⟩ => absurd hi (by omega)⟩
  | d + 1, y => by
    show (fp_in kf n c r d y || decide (fp_us kf n c r d / 2 = y)) = true ↔ _
    rw [Bool.or_eq_true, fp_in_iff, decide_eq_true_eq]
    refine ⟨fun h => ?_, fun ⟨i, hi, e⟩ => ?_⟩
    · rcases h with ⟨i, hi, e⟩ | e
      · exact ⟨i, by omega, e⟩
      · exact ⟨d, by omega, e⟩
    · by_cases z : i = d
      · subst z; exact Or.inr e
      · exact Or.inl ⟨i, by omega, e⟩
theorem pu_mask0 {kf : Nat → Nat} {n : Nat} (ok : fp_ok kf n) {g : Nat → Bool} {s x : Int64} {c r : Nat} (hc : c < fp_w kf n) (hr : r < fp_h kf n) (hs : ∀ y, y < 64 → ib s y = fp_in kf n c r (2 ^ n) y) (hg : ∀ y, y < 64 → ib x y = g y) : (s &&& x = 0) ↔ mF kf n g c r = 0 := by
  have lt : ∀ i, i < 2 ^ n → fp_us kf n c r i / 2 < 64 := fun i hi => by
    have := fp_us_lt kf n c r i ok hc hr hi
    omega
  rw [ib_eq0]
  refine ⟨fun h => ?_, fun h y hy => ?_⟩
  · refine Classical.byContradiction (fun q => ?_)
    obtain ⟨i, hi, e⟩ := ct_ne0 q
    have := h _ (lt i hi)
    rw [ib_and, hs _ (lt i hi), hg _ (lt i hi), fp_in_iff.mpr ⟨i, hi, rfl⟩, e] at this
    exact absurd this (by decide)
  · rw [ib_and, hs y hy, hg y hy]
    by_cases z : fp_in kf n c r (2 ^ n) y = true
    · obtain ⟨i, hi, e⟩ := fp_in_iff.mp z
      have := ct_0 h hi
      simp only [e] at this
      rw [this, Bool.and_false]
    · rw [Bool.not_eq_true] at z
      rw [z, Bool.false_and]
theorem pu_maskL {kf : Nat → Nat} {n : Nat} (ok : fp_ok kf n) {g : Nat → Bool} {s x : Int64} {c r : Nat} (hc : c < fp_w kf n) (hr : r < fp_h kf n) (hs : ∀ y, y < 64 → ib s y = fp_in kf n c r (2 ^ n) y) (hg : ∀ y, y < 64 → ib x y = g y) : (s &&& x = s) ↔ mF kf n g c r = 2 ^ n := by
  have lt : ∀ i, i < 2 ^ n → fp_us kf n c r i / 2 < 64 := fun i hi => by
    have := fp_us_lt kf n c r i ok hc hr hi
    omega
  rw [ib_eq]
  refine ⟨fun h => ?_, fun h y hy => ?_⟩
  · refine Classical.byContradiction (fun q => ?_)
    obtain ⟨i, hi, e⟩ := ct_neL q
    have := h _ (lt i hi)
    rw [ib_and, hs _ (lt i hi), hg _ (lt i hi), fp_in_iff.mpr ⟨i, hi, rfl⟩, e] at this
    exact absurd this (by decide)
  · rw [ib_and, hs y hy, hg y hy]
    by_cases z : fp_in kf n c r (2 ^ n) y = true
    · obtain ⟨i, hi, e⟩ := fp_in_iff.mp z
      have := ct_L h hi
      simp only [e] at this
      rw [this, Bool.and_true]
    · rw [Bool.not_eq_true] at z
      rw [z, Bool.false_and]
theorem pu_punchesFor {made mac : Int32} {ks : Nat → Int32} {x : Int64} {post : Int32 → Prop} (kf : Nat → Nat) (n : Nat) (ok : fp_ok kf n) (hn : made = nI n) (hm : mac = nI (fp_pa kf n)) (hk : ∀ i, i < n → ks i = nI (kf i)) (g : Nat → Bool) (hg : ∀ y, y < 64 → ib x y = g y)
    (h : post (pW kf n g)) : wp_X0_punchesFor made mac ks x post := by
  have bL := fp_L_b (fp_ok_6 ok)
  have bw := fp_w_b _ _ ok
  have bh := fp_h_b _ _ ok
  have wh := fp_wh _ _ ok
  refine pu_columns kf n ok hm ?_
  refine pu_rows kf n ok hn hm ?_
  intro P hP
  let F : Nat → Nat := fun q => mF kf n g (q % fp_w kf n) (q / fp_w kf n)
  have hF : ∀ r c, r < fp_h kf n → c < fp_w kf n → F (r * fp_w kf n + c) = mF kf n g c r := fun r c hr hc => by
    show mF kf n g ((r * fp_w kf n + c) % fp_w kf n) ((r * fp_w kf n + c) / fp_w kf n) = _
    rw [Nat.mul_comm, Nat.mul_add_mod, Nat.mod_eq_of_lt hc, Nat.mul_add_div (by omega), Nat.div_eq_of_lt hc, Nat.add_zero]
  have key : ∀ d r, r + d = fp_h kf n → (∀ q, q < r * fp_w kf n → F q = 0 ∨ F q = 2 ^ n) → P (nI (ct (fun q => decide (F q = 2 ^ n)) (r * fp_w kf n))) (nI r) := by
    intro d
    induction d with
    | zero =>
      intro r hr hq
      have er : r = fp_h kf n := by omega
      refine hP _ _ (br_t (nI_le (by omega) (by omega)) ?_)
      rw [er, Nat.mul_comm, ← pW_good ok F hF (fun q h' => hq q (by rw [er, Nat.mul_comm]; exact h'))]
      exact h
    | succ d ih =>
      intro r hr hq
      refine hP _ _ (br_f (nI_ge (by omega) (by omega)) ?_)
      intro Q hQ
      have key2 : ∀ e c, c + e = fp_w kf n → (∀ q, q < r * fp_w kf n + c → F q = 0 ∨ F q = 2 ^ n) → Q (nI (ct (fun q => decide (F q = 2 ^ n)) (r * fp_w kf n + c))) (nI c) := by
        intro e
        induction e with
        | zero =>
          intro c hc hq'
          have ec : c = fp_w kf n := by omega
          refine hQ _ _ (br_t (nI_le (by omega) (by omega)) ?_)
          have e3 : r * fp_w kf n + c = (r + 1) * fp_w kf n := by rw [Nat.add_mul, Nat.one_mul, ec]
          rw [pu_i1, e3]
          exact ih (r + 1) (by omega) (fun q h' => hq' q (by rw [e3]; exact h'))
        | succ e ih2 =>
          intro c hc hq'
          have hc' : c < fp_w kf n := by omega
          have hr' : r < fp_h kf n := by omega
          refine hQ _ _ (br_f (nI_ge (by omega) (by omega)) ?_)
          refine pu_layers n (fp_ok_6 ok) hn ?_
          refine pu_uppermostCells kf n ok hn hm hk c r (2 ^ n) hc' hr' (Nat.le_refl _) (fun s hs => ?_)
          intro w10 e10
          subst e10
          intro P71 h71
          have m0 := pu_mask0 ok hc' hr' hs hg
          have mL := pu_maskL ok hc' hr' hs hg
          have ef := hF r c hr' hc'
          have go : F (r * fp_w kf n + c) = 0 ∨ F (r * fp_w kf n + c) = 2 ^ n → P71 := fun z => h71 (fun P86 h86 => by
            have nx := ih2 (c + 1) (by omega) (fun q h' => by
              by_cases y : q = r * fp_w kf n + c
              · subst y; exact z
              · exact hq' q (by omega))
            have e4 : ct (fun q => decide (F q = 2 ^ n)) (r * fp_w kf n + (c + 1)) = ct (fun q => decide (F q = 2 ^ n)) (r * fp_w kf n + c) + if decide (F (r * fp_w kf n + c) = 2 ^ n) = true then 1 else 0 := rfl
            rw [e4] at nx
            refine ⟨fun y => h86 _ (fun w q => ?_), fun y => h86 _ (fun w q => ?_)⟩
            · subst q
              rw [lg_cmp_eq, mL, ← ef] at y
              rw [if_neg (by simpa using y)] at nx
              exact pm_p0 nx
            · subst q
              rw [lg_cmp_eq, mL, ← ef] at y
              rw [if_pos (by simpa using y)] at nx
              exact pm_p1 nx)
          refine ⟨fun y => ?_, fun y => ⟨fun y2 => ?_, fun y2 => ?_⟩⟩
          · rw [lg_cmp_eq, m0, ← ef] at y
            exact go (Or.inl y)
          · rw [lg_cmp_eq, mL, ← ef] at y2
            exact go (Or.inr y2)
          · rw [lg_cmp_eq, m0] at y
            rw [lg_cmp_eq, mL] at y2
            rw [← pW_bad ok hc' hr' y y2]
            exact h
      exact key2 (fp_w kf n) 0 (by omega) (fun q h' => hq q (by omega))
  have := key (fp_h kf n) 0 (by omega) (fun q h' => absurd h' (by omega))
  rw [Nat.zero_mul] at this
  exact this
