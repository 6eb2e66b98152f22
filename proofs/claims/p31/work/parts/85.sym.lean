/-! the symmetries -/
def sy4 (a b c d : Bool) : Int32 := (((if a = true then (1 : Int32) else 0) ||| (if b = true then (2 : Int32) else 0)) ||| (if c = true then (4 : Int32) else 0)) ||| (if d = true then (8 : Int32) else 0)
theorem sy4_and (v : Int32) (a b c d : Bool) : (((v &&& (if a = true then (15 : Int32) else 14)) &&& (if b = true then (15 : Int32) else 13)) &&& (if c = true then (15 : Int32) else 11)) &&& (if d = true then (15 : Int32) else 7) = v &&& sy4 a b c d := by
  rw [Int32.and_assoc, Int32.and_assoc, Int32.and_assoc]
  congr 1
  cases a <;> cases b <;> cases c <;> cases d <;> decide
/-- what one cell says -/
def syAt (f : Nat → Bool) (c r : Nat) : Int32 := sy4 (f (8 * r + c) == f (8 * r + (7 - c))) (f (8 * r + c) == f (8 * (7 - r) + c)) (f (8 * r + c) == f (8 * (7 - r) + (7 - c))) (f (8 * r + c) == f (8 * c + r))
def syTo (f : Nat → Bool) : Nat → Int32
  | 0 => 15
  | j + 1 => syTo f j &&& syAt f (j % 8) (j / 8)
theorem syAt_congr {f g : Nat → Bool} (h : ∀ k, k < 64 → f k = g k) {c r : Nat} (hc : c < 8) (hr : r < 8) : syAt f c r = syAt g c r := by
  unfold syAt
  rw [h (8 * r + c) (by omega), h (8 * r + (7 - c)) (by omega), h (8 * (7 - r) + c) (by omega), h (8 * (7 - r) + (7 - c)) (by omega), h (8 * c + r) (by omega)]
theorem syTo_congr {f g : Nat → Bool} (h : ∀ k, k < 64 → f k = g k) : ∀ n, n ≤ 64 → syTo f n = syTo g n
  | 0, _ => rfl
  | n + 1, hn => by
    show syTo f n &&& _ = syTo g n &&& _
    rw [syTo_congr h n (by omega), syAt_congr h (by omega) (by omega)]
theorem bI_eq {a b : Bool} : bI a = bI b ↔ (a == b) = true := by cases a <;> cases b <;> simp [bI]
/-- a choice between two values, the second where the condition fails -/
theorem sy_sel {P : Int32 → Prop} {a b : Bool} {x y : Int32} (h : P (if (a == b) = true then x else y)) : (¬ bI a = bI b → P y) ∧ (bI a = bI b → P x) := by
  refine ⟨fun z => ?_, fun z => ?_⟩
  · rw [if_neg (fun q => z (bI_eq.mpr q))] at h; exact h
  · rw [if_pos (bI_eq.mp z)] at h; exact h
theorem sy_selR {P : Int32 → Prop} {a b : Bool} {x y : Int32} (h : P (if (a == b) = true then x else y)) : (¬ bI b = bI a → P y) ∧ (bI b = bI a → P x) := by
  refine ⟨fun z => ?_, fun z => ?_⟩
  · rw [if_neg (fun q => z (bI_eq.mpr q).symm)] at h; exact h
  · rw [if_pos (bI_eq.mp z.symm)] at h; exact h
theorem pu_symmetriesAt {x : Int64} {post : Int32 → Prop} (j : Nat) (hj : j < 64) (h : post (syAt (ib x) (j % 8) (j / 8))) : wp_X5_symmetriesAt x (nI j) post := by
  refine nm_r (e' := nI (j % 8)) (pk_rem (d := 8) (by omega) (by decide) (by decide)) ?_
  refine nm_r (e' := nI (j / 8)) (pk_div (d := 8) (by omega) (by decide) (by decide)) ?_
  refine nm_r (e' := nI (7 - j % 8)) (pk_sub (a := 7) (by omega)) ?_
  refine nm_r (e' := nI (7 - j / 8)) (pk_sub (a := 7) (by omega)) ?_
  have e0 : 8 * (j / 8) + j % 8 = j := by omega
  unfold syAt at h
  rw [e0] at h
  unfold sy4 at h
  refine pu_hasCell j hj ?_
  rw [show (8 : Int32) * nI (j / 8) = nI (8 * (j / 8)) from pk_mul 8 _, nI_add]
  refine pu_hasCell _ (by omega) ?_
  intro P1 h1
  refine sy_sel (h1 _ ?_)
  rw [show (8 : Int32) * nI (7 - j / 8) = nI (8 * (7 - j / 8)) from pk_mul 8 _, nI_add]
  refine pu_hasCell _ (by omega) ?_
  intro P2 h2
  refine sy_sel (h2 _ (fun w8 e8 => ?_))
  subst e8
  rw [nI_add]
  refine pu_hasCell _ (by omega) ?_
  intro P3 h3
  refine sy_sel (h3 _ (fun w8 e8 => ?_))
  subst e8
  rw [show (8 : Int32) * nI (j % 8) = nI (8 * (j % 8)) from pk_mul 8 _, nI_add]
  refine pu_hasCell _ (by omega) ?_
  intro P4 h4
  exact sy_sel (h4 _ h)
theorem pu_symmetries {x : Int64} {post : Int32 → Prop} (h : post (syTo (ib x) 64)) : wp_X5_symmetries x post := by
  intro P hP
  have key : ∀ d j, j + d = 64 → P (syTo (ib x) j) (nI j) := by
    intro d
    induction d with
    | zero =>
      intro j hj
      have : j = 64 := by omega
      subst this
      exact hP _ _ (br_t (nI_le (b := 64) (a := 64) (Nat.le_refl _) (by omega)) h)
    | succ d ih =>
      intro j hj
      refine hP _ _ (br_f (nI_ge (b := 64) (a := j) (by omega) (by omega)) ?_)
      refine pu_symmetriesAt j (by omega) (fun w e => ?_)
      subst e
      rw [pu_i1]
      exact ih (j + 1) (by omega)
  exact key 64 0 (by omega)
