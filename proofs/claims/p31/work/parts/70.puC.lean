/-! the class: recorded states -/
def pHC (hpat hgoal : Nat → Int64) (hcol : Nat → Nat → Int32) (hmade hmac : Nat → Int32) (hks : Nat → Nat → Int32) (k : Nat) (hp : Nat → Pap) : Prop := ∀ j, j < k → pC (hpat j) (hgoal j) (hcol j) (hmade j) (hmac j) (hks j) (hp j)
theorem pu_up_s {α : Type} (f : Nat → α) (k : Nat) (v : α) : va_up f k v k = v := va_up_self f k v
theorem pu_up_n {α : Type} (f : Nat → α) {k j : Nat} (v : α) (h : j ≠ k) : va_up f k v j = f j := va_up_ne f v h
theorem pu_note {npat ngoal : Int64} {ncol : Nat → Int32} {nmade nmac : Int32} {nks : Nat → Int32} {hkept : Int32} {hks : Nat → Nat → Int32} {hmade hmac : Nat → Int32} {hcol : Nat → Nat → Int32} {hpat hgoal : Nat → Int64} {post : (Nat → Nat → Int32) → (Nat → Int32) → (Nat → Int32) → (Nat → Nat → Int32) → (Nat → Int64) → (Nat → Int64) → Prop}
    (k : Nat) (hk : k ≤ 5) (hp : Nat → Pap) (p : Pap) (hkept_ : hkept = nI k) (hC : pC npat ngoal ncol nmade nmac nks p) (hH : pHC hpat hgoal hcol hmade hmac hks k hp)
    (h : ∀ hks' hmade' hmac' hcol' hpat' hgoal', pHC hpat' hgoal' hcol' hmade' hmac' hks' k hp → pC (hpat' k) (hgoal' k) (hcol' k) (hmade' k) (hmac' k) (hks' k) p → post hks' hmade' hmac' hcol' hpat' hgoal') : wp_X1_note npat ngoal ncol nmade nmac nks hkept hks hmade hmac hcol hpat hgoal post := by
  have gen : wp_X3_becomeLike (hpat k) (hgoal k) (hcol k) (hmade k) (hmac k) (hks k) npat ngoal ncol nmade nmac nks (fun a b c d e f => post (va_up hks k f) (va_up hmade k d) (va_up hmac k e) (va_up hcol k c) (va_up hpat k a) (va_up hgoal k b)) := by
    refine pu_becomeLike p hC (fun a b c d e f hc => ?_)
    refine h _ _ _ _ _ _ (fun j hj => ?_) ?_
    · rw [pu_up_n _ _ (by omega), pu_up_n _ _ (by omega), pu_up_n _ _ (by omega), pu_up_n _ _ (by omega), pu_up_n _ _ (by omega), pu_up_n _ _ (by omega)]
      exact hH j hj
    · rw [pu_up_s, pu_up_s, pu_up_s, pu_up_s, pu_up_s, pu_up_s]
      exact hc
  have hk6 : k = 0 ∨ k = 1 ∨ k = 2 ∨ k = 3 ∨ k = 4 ∨ k = 5 := by omega
  subst hkept_
  rcases hk6 with rfl | rfl | rfl | rfl | rfl | rfl
  · exact Or.inl ⟨rfl, gen⟩
  · exact Or.inr (Or.inl ⟨rfl, gen⟩)
  · exact Or.inr (Or.inr (Or.inl ⟨rfl, gen⟩))
  · exact Or.inr (Or.inr (Or.inr (Or.inl ⟨rfl, gen⟩)))
  · exact Or.inr (Or.inr (Or.inr (Or.inr (Or.inl ⟨rfl, gen⟩))))
  · exact Or.inr (Or.inr (Or.inr (Or.inr (Or.inr ⟨rfl, gen⟩))))
theorem gn_rot_lt {α : Type} (f : Nat → α) : ∀ j, j < 5 → gn_rot f j = f (j + 1) := by
  intro j hj
  have : j = 0 ∨ j = 1 ∨ j = 2 ∨ j = 3 ∨ j = 4 := by omega
  rcases this with rfl | rfl | rfl | rfl | rfl <;> rfl
/-- an answer that is an error code -/
def isErr (x : Int32) : Prop := x < 0 ∧ x ≠ (-6 : Int32)
theorem pu_keep {hkept : Int32} {hks : Nat → Nat → Int32} {hmade hmac : Nat → Int32} {hcol : Nat → Nat → Int32} {hpat hgoal : Nat → Int64} {x : Int32} {post : Int32 → Int32 → (Nat → Nat → Int32) → (Nat → Int32) → (Nat → Int32) → (Nat → Nat → Int32) → (Nat → Int64) → (Nat → Int64) → Prop}
    (k : Nat) (hk : k ≤ 5) (hp : Nat → Pap) (p : Pap) (hkept_ : hkept = nI k) (hC : pC (hpat k) (hgoal k) (hcol k) (hmade k) (hmac k) (hks k) p) (hH : pHC hpat hgoal hcol hmade hmac hks k hp)
    (he : isErr x → post x (nI k) hks hmade hmac hcol hpat hgoal)
    (ho : ¬ isErr x → ∀ hks' hmade' hmac' hcol' hpat' hgoal', pHC hpat' hgoal' hcol' hmade' hmac' hks' (hLen k) (hPush k hp p) → post x (nI (hLen k)) hks' hmade' hmac' hcol' hpat' hgoal') : wp_X5_keepUnlessError hkept hks hmade hmac hcol hpat hgoal x post := by
  subst hkept_
  have good : ¬ isErr x → wp_X1_keepNoted (nI k) hks hmade hmac hcol hpat hgoal (fun a b c d e f g => post x a b c d e f g) := by
    intro z
    refine pk_le 5 k (fun q => ?_) (fun q => ?_)
    · have k5 : k = 5 := by omega
      subst k5
      have := ho z (gn_rot hks) (gn_rot hmade) (gn_rot hmac) (gn_rot hcol) (gn_rot hpat) (gn_rot hgoal)
      unfold hLen hPush at this
      rw [if_neg (by decide), if_neg (by decide)] at this
      refine this (fun j hj => ?_)
      rw [gn_rot_lt _ j hj, gn_rot_lt _ j hj, gn_rot_lt _ j hj, gn_rot_lt _ j hj, gn_rot_lt _ j hj, gn_rot_lt _ j hj]
      show pC (hpat (j + 1)) (hgoal (j + 1)) (hcol (j + 1)) (hmade (j + 1)) (hmac (j + 1)) (hks (j + 1)) (if j = 4 then p else hp (j + 1))
      by_cases z4 : j = 4
      · subst z4
        rw [if_pos rfl]
        exact hC
      · rw [if_neg z4]
        exact hH (j + 1) (by omega)
    · rw [pu_i1]
      have := ho z hks hmade hmac hcol hpat hgoal
      unfold hLen hPush at this
      rw [if_pos q, if_pos q] at this
      refine this (fun j hj => ?_)
      show pC (hpat j) (hgoal j) (hcol j) (hmade j) (hmac j) (hks j) (if j = k then p else hp j)
      by_cases zk : j = k
      · subst zk
        rw [if_pos rfl]
        exact hC
      · rw [if_neg zk]
        exact hH j (by omega)
  have fin0 : ¬ isErr x → ∀ (Q : Prop) (P14 : Int32 → (Nat → Nat → Int32) → (Nat → Int32) → (Nat → Int32) → (Nat → Nat → Int32) → (Nat → Int64) → (Nat → Int64) → Prop), (∀ a b c d e f g, post x a b c d e f g → P14 a b c d e f g) → (¬ (0 : Int32) = 0 → Q) ∧ ((0 : Int32) = 0 → wp_X1_keepNoted (nI k) hks hmade hmac hcol hpat hgoal (fun a b c d e f g => P14 a b c d e f g)) := by
    intro z Q P14 hP14
    refine ⟨fun q => absurd rfl q, fun _ => ?_⟩
    have := good z
    exact ⟨fun q => hP14 _ _ _ _ _ _ _ (this.1 q), fun q => hP14 _ _ _ _ _ _ _ (this.2 q)⟩
  intro P hP
  by_cases h0 : (0 : Int32) ≤ x
  · have ne : ¬ isErr x := fun q => absurd q.1 (Int32.not_lt.mpr h0)
    exact br_t h0 (hP ⟨Or.inl rfl, fun P14 hP14 => fin0 ne _ P14 hP14⟩)
  · refine br_f h0 ?_
    by_cases h6 : x = (-6 : Int32)
    · have ne : ¬ isErr x := fun q => q.2 h6
      exact br_t h6 (hP ⟨Or.inl rfl, fun P14 hP14 => fin0 ne _ P14 hP14⟩)
    · refine br_f h6 ⟨Or.inr rfl, fun P14 hP14 => ?_⟩
      exact ⟨fun _ => hP14 _ _ _ _ _ _ _ (he ⟨Int32.not_le.mp h0, h6⟩), fun q => absurd q (by decide)⟩
theorem ne_nI {n : Nat} (h : n < 2 ^ 31) : ¬ isErr (nI n) := fun q => nI_pos h q.1
theorem er_1 : isErr (-1) := ⟨by decide, by decide⟩
theorem er_2 : isErr (-2) := ⟨by decide, by decide⟩
theorem er_3 : isErr (-3) := ⟨by decide, by decide⟩
theorem ne_6 : ¬ isErr (-6) := fun q => q.2 rfl
