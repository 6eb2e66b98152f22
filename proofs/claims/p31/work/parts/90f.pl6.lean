/-! the law's symmetries -/
def oth (k n : Nat) : Nat := if k = 0 then 8 * (n / 8) + (7 - n % 8) else if k = 1 then 8 * (7 - n / 8) + n % 8 else if k = 2 then 63 - n else 8 * (n % 8) + n / 8
def aK (f : Nat → Bool) (k : Nat) : Nat → Bool
  | 0 => true
  | n + 1 => aK f k n && (f n == f (oth k n))
theorem oth_lt {k n : Nat} (h : n < 64) : oth k n < 64 := by
  unfold oth
  repeat' split
  all_goals omega
theorem aK_mono {f : Nat → Bool} {k : Nat} : ∀ {n m : Nat}, m ≤ n → aK f k n = true → aK f k m = true
  | 0, m, h, e => by
    have : m = 0 := by omega
    subst this; exact e
  | n + 1, m, h, e => by
    by_cases z : m = n + 1
    · subst z; exact e
    · have e2 : (aK f k n && (f n == f (oth k n))) = true := e
      rw [Bool.and_eq_true] at e2
      exact aK_mono (by omega) e2.1
theorem sy4_2 (a b c d a' b' c' d' : Bool) : sy4 a b c d &&& sy4 a' b' c' d' = sy4 (a && a') (b && b') (c && c') (d && d') := by
  cases a <;> cases b <;> cases c <;> cases d <;> cases a' <;> cases b' <;> cases c' <;> cases d' <;> decide
theorem sy_aK (f : Nat → Bool) : ∀ n, n ≤ 64 → syTo f n = sy4 (aK f 0 n) (aK f 1 n) (aK f 2 n) (aK f 3 n)
  | 0, _ => by
    show (15 : Int32) = sy4 true true true true
    decide
  | n + 1, h => by
    show syTo f n &&& syAt f (n % 8) (n / 8) = _
    rw [sy_aK f n (by omega)]
    unfold syAt
    rw [sy4_2]
    have e0 : 8 * (n / 8) + n % 8 = n := by omega
    have e2 : 8 * (7 - n / 8) + (7 - n % 8) = 63 - n := by omega
    rw [e0, e2]
    rfl
theorem sy4_sum (a b c d : Bool) : (((if a = true then (1 : Int32) else 0) + (if b = true then (2 : Int32) else 0)) + (if c = true then (4 : Int32) else 0)) + (if d = true then (8 : Int32) else 0) = sy4 a b c d := by
  cases a <;> cases b <;> cases c <;> cases d <;> decide
theorem pl_isSame {vh : Nat → Int32} {x : Int32} {post : Int32 → Prop} (f : Nat → Bool) (hvh : ∀ c, c < 64 → vh c = bI (f c)) (k : Nat) (hk : k < 4) (hx : x = nI k) (h : post (bI (aK f k 64))) : wp_L_isSame vh x post := by
  subst hx
  intro P hP
  have key : ∀ d j, j + d = 64 → aK f k j = true → P (nI j) := by
    intro d
    induction d with
    | zero =>
      intro j hj e
      have ej : j = 64 := by omega
      subst ej
      refine hP _ (br_t (nI_le (a := 64) (b := 64) (Nat.le_refl _) (by decide)) ⟨Or.inr rfl, ?_⟩)
      rw [e] at h
      exact h
    | succ d ih =>
      intro j hj e
      have j64 : j < 64 := by omega
      refine hP _ (br_f (nI_ge (a := j) (b := 64) (by omega) (by omega)) ?_)
      refine nm_r (e' := nI (j % 8)) (pk_rem (d := 8) (by omega) (by decide) (by decide)) ?_
      refine nm_r (e' := nI (j / 8)) (pk_div (d := 8) (by omega) (by decide) (by decide)) ?_
      intro Q hQ
      have ol := oth_lt (k := k) j64
      have go : Q (nI (oth k j)) := by
        refine hQ _ ⟨vp_in_nI j64 (by omega), vp_in_nI ol (by omega), ?_⟩
        rw [nI_clamp (n := j) (by omega), nI_clamp (n := oth k j) (by omega), hvh j j64, hvh _ ol, bI_eq, pu_i1]
        have es : aK f k (j + 1) = (aK f k j && (f j == f (oth k j))) := rfl
        refine ⟨fun z => ih (j + 1) (by omega) (by rw [es, e, z]; rfl), fun z => ⟨Or.inl rfl, ?_⟩⟩
        have e64 : aK f k 64 = false := by
          cases q : aK f k 64
          · rfl
          · have := aK_mono (show j + 1 ≤ 64 by omega) q
            rw [es, e, Bool.true_and] at this
            exact absurd this z
        rw [e64] at h
        exact h
      have k4 : k = 0 ∨ k = 1 ∨ k = 2 ∨ k = 3 := by omega
      rcases k4 with rfl | rfl | rfl | rfl
      · refine br_e rfl ?_
        rw [show (8 : Int32) * nI (j / 8) = nI (8 * (j / 8)) from pk_mul 8 _, show nI (8 * (j / 8)) + (7 : Int32) = nI (8 * (j / 8) + 7) from nI_add _ 7, pk_sub (by omega), show 8 * (j / 8) + 7 - j % 8 = oth 0 j by unfold oth; rw [if_pos rfl]; omega]
        exact go
      · refine br_n (by decide) (br_e rfl ?_)
        rw [show (7 : Int32) - nI (j / 8) = nI (7 - j / 8) from pk_sub (a := 7) (by omega), show (8 : Int32) * nI (7 - j / 8) = nI (8 * (7 - j / 8)) from pk_mul 8 _, nI_add, show 8 * (7 - j / 8) + j % 8 = oth 1 j by unfold oth; rw [if_neg (by decide), if_pos rfl]]
        exact go
      · refine br_n (by decide) (br_n (by decide) (br_e rfl ?_))
        rw [show (63 : Int32) - nI j = nI (63 - j) from pk_sub (a := 63) (by omega), show 63 - j = oth 2 j by unfold oth; rw [if_neg (by decide), if_neg (by decide), if_pos rfl]]
        exact go
      · refine br_n (by decide) (br_n (by decide) (br_n (by decide) ?_))
        rw [show (8 : Int32) * nI (j % 8) = nI (8 * (j % 8)) from pk_mul 8 _, nI_add, show 8 * (j % 8) + j / 8 = oth 3 j by unfold oth; rw [if_neg (by decide), if_neg (by decide), if_neg (by decide)]]
        exact go
  exact key 64 0 (by omega) rfl
