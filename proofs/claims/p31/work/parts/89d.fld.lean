/-! the class's flood -/
theorem ib_nr : ∀ i, i < 64 → ib (9187201950435737471 : Int64) i = decide (i % 8 ≠ 7) := by decide +kernel
theorem ib_nl : ∀ i, i < 64 → ib (-72340172838076674 : Int64) i = decide (i % 8 ≠ 0) := by decide +kernel
theorem pu_besideOf {x : Int64} {post : Int64 → Prop} (h : ∀ r : Int64, (∀ i, i < 64 → (ib r i = true ↔ ∃ j, j < 64 ∧ ib x j = true ∧ adj j i)) → post r) : wp_X2_besideOf x post := by
  intro w hw
  subst hw
  refine h _ (fun i hi => ?_)
  have s1 := fun y : Int64 => ib_shl (k := 1) (by omega) y hi
  have s8 := fun y : Int64 => ib_shl (k := 8) (by omega) y hi
  have r1 := fun y : Int64 => ib_shr (k := 1) (by omega) y i
  have r8 := fun y : Int64 => ib_shr (k := 8) (by omega) y i
  rw [ib_or, ib_or, ib_or]
  rw [show ((1 : Int32)) = nI 1 from rfl, show ((8 : Int32)) = nI 8 from rfl, s1, s8, r1, r8, ib_and, ib_and]
  simp only [Bool.or_eq_true, Bool.and_eq_true, decide_eq_true_eq]
  constructor
  · rintro (((⟨a, b, c⟩ | ⟨b, c⟩) | ⟨a, b⟩) | b)
    · refine ⟨i - 1, by omega, b, ?_⟩
      rw [ib_nr _ (by omega), decide_eq_true_eq] at c
      unfold adj; omega
    · by_cases z : 1 + i < 64
      · rw [ib_nl _ z, decide_eq_true_eq] at c
        refine ⟨1 + i, z, b, ?_⟩
        unfold adj; omega
      · rw [ib_big (by omega)] at b
        exact absurd b (by decide)
    · exact ⟨i - 8, by omega, b, by unfold adj; omega⟩
    · by_cases z : 8 + i < 64
      · exact ⟨8 + i, z, b, by unfold adj; omega⟩
      · rw [ib_big (by omega)] at b
        exact absurd b (by decide)
  · rintro ⟨j, hj, b, e⟩
    unfold adj at e
    rcases e with ⟨e, q⟩ | ⟨e, q⟩ | e | e
    · refine Or.inl (Or.inl (Or.inl ⟨by omega, ?_, ?_⟩))
      · rw [show i - 1 = j by omega]; exact b
      · rw [show i - 1 = j by omega, ib_nr _ hj, decide_eq_true_eq]; exact q
    · refine Or.inl (Or.inl (Or.inr ⟨?_, ?_⟩))
      · rw [show 1 + i = j by omega]; exact b
      · rw [show 1 + i = j by omega, ib_nl _ hj, decide_eq_true_eq]; omega
    · refine Or.inl (Or.inr ⟨by omega, ?_⟩)
      rw [show i - 8 = j by omega]; exact b
    · refine Or.inr ?_
      rw [show 8 + i = j by omega]; exact b
