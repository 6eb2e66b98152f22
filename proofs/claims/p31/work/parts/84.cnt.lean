/-! counts, symmetries, the goal as the paper is -/
theorem pm_cnt {P : Int32 → Int32 → Prop} {post : Int32 → Prop} {S : Int32 → Int32 → Prop} (n : Nat) (f : Nat → Bool) (hn : n < 2 ^ 30) (h : post (nI (ct f n)))
    (hP : ∀ v1 v2, ((nI n ≤ v2 → post v1) ∧ (¬ nI n ≤ v2 → S v1 v2)) → P v1 v2)
    (hS : ∀ k j : Nat, j < n → k ≤ j → P (nI (k + if f j = true then 1 else 0)) (nI (j + 1)) → S (nI k) (nI j)) : P (0 : Int32) (0 : Int32) := by
  have key : ∀ d j, j + d = n → P (nI (ct f j)) (nI j) := by
    intro d
    induction d with
    | zero =>
      intro j hj
      have : j = n := by omega
      subst this
      exact hP _ _ (br_t (nI_le (Nat.le_refl _) (by omega)) h)
    | succ d ih =>
      intro j hj
      exact hP _ _ (br_f (nI_ge (by omega) (by omega)) (hS _ _ (by omega) (ct_le f j) (ih (j + 1) (by omega))))
  exact key n 0 (by omega)
theorem pm_p0 {P : Int32 → Int32 → Prop} {k j : Nat} (h : P (nI (k + 0)) (nI (j + 1))) : P (nI k + (0 : Int32)) (nI j + (1 : Int32)) := by
  rw [show nI k + (0 : Int32) = nI (k + 0) from nI_add k 0, pu_i1]
  exact h
theorem pm_p1 {P : Int32 → Int32 → Prop} {k j : Nat} (h : P (nI (k + 1)) (nI (j + 1))) : P (nI k + (1 : Int32)) (nI j + (1 : Int32)) := by
  rw [pu_i1, pu_i1]
  exact h
theorem pm_bit : ∀ m, m < 256 → ∀ j, j < 8 → ((nI m >>> (nI j &&& (31 : Int32))) &&& (1 : Int32)) = bI (m.testBit j) := by decide +kernel
theorem pu_colouredSides {col : Nat → Int32} {post : Int32 → Prop} (f : Nat → Int32) (hf : ∀ s, s < 128 → col s = f s) (h : post (nI (ct (fun s => decide (f s ≠ 0)) 128))) : wp_X3_colouredSides col post := by
  intro P hP
  refine pm_cnt 128 (fun s => decide (f s ≠ 0)) (by decide) h hP (fun k j hj hk hn => ?_)
  refine ⟨vp_in_nI (by omega) (by omega), ?_⟩
  intro Q hQ
  rw [nI_clamp (by omega), hf j hj]
  by_cases z : f j = 0
  · refine br_t z (hQ _ (fun w e => ?_))
    subst e
    rw [if_neg (by simp [z])] at hn
    exact pm_p0 hn
  · refine br_f z (hQ _ (fun w e => ?_))
    subst e
    rw [if_pos (by simp [z])] at hn
    exact pm_p1 hn
/-- the goal becomes the paper's holes -/
def qHere (p : Pap) : Pap := (qn p, qf p, qp p, qc p, qp p)
