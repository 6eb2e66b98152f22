/-! the reference: one fold laid -/
theorem pm_sel1 {k j : Nat} {P : Int32 → Prop} {a b : Int32} (hk : k < 2 ^ 31) (hj : j < 2 ^ 31) (h : P (if k = j then b else a)) : (¬ nI k = nI j → P a) ∧ (nI k = nI j → P b) := by
  refine ⟨fun z => ?_, fun z => ?_⟩
  · rw [if_neg (fun q => z (by rw [q]))] at h
    exact h
  · rw [if_pos ((nI_eq hk hj).mp z)] at h
    exact h
theorem pm_sel2 {k i j : Nat} {P : Int32 → Prop} {a b c : Int32} (hk : k < 2 ^ 31) (hi : i < 2 ^ 31) (hj : j < 2 ^ 31) (h : P (if k = i then c else if k = j then b else a)) : (¬ nI k = nI i → (¬ nI k = nI j → P a) ∧ (nI k = nI j → P b)) ∧ (nI k = nI i → P c) := by
  refine ⟨fun z => ?_, fun z => ?_⟩
  · rw [if_neg (fun q => z (by rw [q]))] at h
    exact pm_sel1 hk hj h
  · rw [if_pos ((nI_eq hk hi).mp z)] at h
    exact h
theorem pm_ah_t {x half : Nat} {fm : Bool} (h : x < half) : fp_ah x half fm true = if fm then half - 1 - x else 2 * half - 1 - x := by
  unfold fp_ah
  cases fm <;> simp <;> omega
theorem pm_ah_f {x half : Nat} {fm : Bool} : fp_ah x half fm false = if fm then half + x else x := by
  unfold fp_ah
  cases fm <;> simp
