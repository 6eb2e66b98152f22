/-! the reference's labels -/
def smN (m : Nat → Nat) : Nat → Nat
  | 0 => 0
  | n + 1 => smN m n + m n
theorem smN_le {m m' : Nat → Nat} : ∀ {n : Nat}, (∀ x, x < n → m' x ≤ m x) → smN m' n ≤ smN m n
  | 0, _ => Nat.le_refl _
  | n + 1, h => by
    have := smN_le (m := m) (m' := m') (n := n) (fun x hx => h x (by omega))
    have := h n (by omega)
    show smN m' n + m' n ≤ smN m n + m n
    omega
theorem smN_lt {m m' : Nat → Nat} {k : Nat} : ∀ {n : Nat}, (∀ x, x < n → m' x ≤ m x) → k < n → m' k < m k → smN m' n < smN m n
  | 0, _, h, _ => absurd h (by omega)
  | n + 1, h, hk, hl => by
    show smN m' n + m' n < smN m n + m n
    have a := h n (by omega)
    by_cases z : k = n
    · subst z
      have := smN_le (m := m) (m' := m') (n := k) (fun x hx => h x (by omega))
      omega
    · have := smN_lt (m := m) (m' := m') (n := n) (k := k) (fun x hx => h x (by omega)) (by omega) hl
      omega
/-- labels: each a cell of the piece, not above the cell -/
def pI (f : Nat → Bool) (pcs : Nat → Int32) (m : Nat → Nat) : Prop := (∀ x, x < 64 → pcs x = nI (m x)) ∧ ∀ x, x < 64 → m x ≤ x ∧ (f x = true → cnx f (m x) x)
theorem pm_joins {zz pcs : Nat → Int32} {post : Int32 → (Nat → Int32) → Prop} (f : Nat → Bool) (hz : ∀ i, i < 64 → (zz (7 + i) = 0 ↔ f i = true)) (m : Nat → Nat) (hI : pI f pcs m) (i j : Nat) (hi : i < 64) (hj : j < 64) (ad : adj i j)
    (h0 : (f i = true → f j = true → m i = m j) → post 0 pcs) (h1 : ∀ m' pcs', pI f pcs' m' → smN m' 64 < smN m 64 → post 1 pcs') : wp_X6_joins zz pcs (nI i) (nI j) post := by
  obtain ⟨hp, hm⟩ := hI
  have mi := (hm i hi).1
  have mj := (hm j hj).1
  refine ⟨vp_in_nI hi (by omega), vp_in_nI hj (by omega), ?_⟩
  intro P30 h30
  have go : ∀ t : Nat, t = min (m i) (m j) → P30 (nI t) := fun t et => by
    refine h30 _ ?_
    rw [show (7 : Int32) + nI i = nI (7 + i) from nI_add 7 i, show (7 : Int32) + nI j = nI (7 + j) from nI_add 7 j]
    refine ⟨vp_in_nI (by omega) (by omega), ?_⟩
    intro P75 h75
    rw [nI_clamp (by omega), nI_clamp (by omega), nI_clamp (by omega), nI_clamp (by omega), hp i hi, hp j hj] at *
    have no : (f i = true → f j = true → m i = m j) → P75 0 := fun q => by
      refine h75 _ ?_
      intro P96 h96
      exact ⟨fun _ => h96 _ ⟨Or.inl rfl, h0 q⟩, fun z => absurd rfl z⟩
    intro P74 h74
    refine ⟨fun z => h74 (no (fun q _ => absurd ((hz i hi).mpr q) z)), fun z => ⟨vp_in_nI (by omega) (by omega), fun z2 => h74 (no (fun _ q => absurd ((hz j hj).mpr q) z2)), fun z2 => ⟨vp_in_nI hi (by omega), vp_in_nI hj (by omega), fun z3 => h74 (no (fun _ _ => (nI_eq (by omega) (by omega)).mp z3)), fun z3 => ?_⟩⟩⟩
    refine h75 _ ?_
    intro P96 h96
    refine ⟨fun q => absurd q (by decide), fun _ => ⟨vp_in_nI hi (by omega), vp_in_nI hj (by omega), h96 _ ⟨Or.inr rfl, ?_⟩⟩⟩
    have fi := (hz i hi).mp z
    have fj := (hz j hj).mp z2
    have ne : m i ≠ m j := fun q => z3 (by rw [q])
    have ij : i ≠ j := fun q => ne (by rw [q])
    have c := cnx_1 hi hj fi fj ad
    have ci := (hm i hi).2 fi
    have cj := (hm j hj).2 fj
    have tle : t ≤ m i ∧ t ≤ m j ∧ (t = m i ∨ t = m j) := by omega
    have cti : cnx f t i := by
      rcases tle.2.2 with q | q
      · rw [q]; exact ci
      · rw [q]; exact cnx_t cj (cnx_s c)
    refine h1 (fun x => if x = j then t else if x = i then t else m x) _ ⟨fun x hx => ?_, fun x hx => ?_⟩ ?_
    · show upd (upd pcs i (nI t)) j (nI t) x = nI (if x = j then t else if x = i then t else m x)
      rw [pu_upd, pu_upd]
      by_cases q : x = j
      · rw [if_pos q, if_pos q]
      · rw [if_neg q, if_neg q]
        by_cases q2 : x = i
        · rw [if_pos q2, if_pos q2]
        · rw [if_neg q2, if_neg q2]; exact hp x hx
    · show (if x = j then t else if x = i then t else m x) ≤ x ∧ (f x = true → cnx f (if x = j then t else if x = i then t else m x) x)
      by_cases q : x = j
      · rw [if_pos q]
        subst q
        exact ⟨by omega, fun _ => cnx_t cti c⟩
      · rw [if_neg q]
        by_cases q2 : x = i
        · rw [if_pos q2]
          subst q2
          exact ⟨by omega, fun _ => cti⟩
        · rw [if_neg q2]; exact hm x hx
    · have le : ∀ x, x < 64 → (if x = j then t else if x = i then t else m x) ≤ m x := fun x _ => by
        by_cases q : x = j
        · rw [if_pos q, q]; omega
        · rw [if_neg q]
          by_cases q2 : x = i
          · rw [if_pos q2, q2]; omega
          · rw [if_neg q2]; omega
      rcases tle.2.2 with q | q
      · refine smN_lt (k := j) le hj ?_
        rw [if_pos rfl]
        omega
      · refine smN_lt (k := i) le hi ?_
        rw [if_neg ij, if_pos rfl]
        omega
  rw [nI_clamp (by omega), nI_clamp (by omega), hp i hi, hp j hj]
  refine ⟨fun z => ⟨vp_in_nI hj (by omega), go (m j) ?_⟩, fun z => ⟨vp_in_nI hi (by omega), go (m i) ?_⟩⟩
  · have : ¬ m i < m j := fun q => nI_ge q (by omega) z
    omega
  · have : ¬ m j ≤ m i := fun q => z (nI_le q (by omega))
    omega
