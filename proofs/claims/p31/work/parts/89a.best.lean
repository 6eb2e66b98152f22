/-! the best folds -/
theorem pu_bestFolds {goal : Int64} {tmade tmac : Int32} {tks : Nat → Int32} {post : Int32 → Int32 → Int32 → (Nat → Int32) → Prop} (g : Nat → Bool) (hg : ∀ y, y < 64 → ib goal y = g y)
    (h : ∀ m c k, post (alC g 7).1 m c k) : wp_X5_bestFolds goal tmade tmac tks post := by
  intro P hP
  have key : ∀ d F m c k, F + d = 7 → P (alC g F).1 (alC g F).2 (nI F) m c k := by
    intro d
    induction d with
    | zero =>
      intro F m c k hF
      have : F = 7 := by omega
      subst this
      exact hP _ _ _ _ _ _ (br_t (nI_lt' (a := 6) (b := 7) (by omega) (by omega)) (h m c k))
    | succ d ih =>
      intro F m c k hF
      refine hP _ _ _ _ _ _ (br_f (nI_nlt' (a := 6) (b := F) (by omega) (by omega)) ?_)
      intro Q hQ
      have key2 : ∀ e a m c k, a + e = F + 1 → Q (sqC g F a (alC g F)).1 (sqC g F a (alC g F)).2 (nI a) m c k := by
        intro e
        induction e with
        | zero =>
          intro a m c k ha
          have : a = F + 1 := by omega
          subst this
          refine hQ _ _ _ _ _ _ (br_t (nI_lt' (by omega) (by omega)) ?_)
          rw [pu_i1]
          exact ih (F + 1) m c k (by omega)
        | succ e ih2 =>
          intro a m c k ha
          refine hQ _ _ _ _ _ _ (br_f (nI_nlt' (by omega) (by omega)) ?_)
          rw [show nI F - nI a = nI (F - a) from pk_sub (by omega)]
          refine pu_trial g hg a (F - a) (by omega) (by omega) (fun m' c' k' => ?_)
          intro P61 h61
          have nx : ∀ s : Int32 × Int32, s = stC (sqC g F a (alC g F)) (bV g a (F - a)) (nI (10 * a + F - a)) → P61 s.1 s.2 := fun s es => by
            refine h61 _ _ ?_
            rw [es, pu_i1]
            exact ih2 (a + 1) m' c' k' (by omega)
          refine ⟨fun z => nx _ ?_, fun z => ⟨fun z2 => nx _ ?_, fun z2 w e => ?_⟩⟩
          · unfold stC
            rw [if_pos z]
          · unfold stC
            rw [if_neg z, if_pos z2]
          · have ew : w = nI (10 * a + F - a) := by
              rw [e, show (10 : Int32) * nI a = nI (10 * a) from pk_mul 10 a, nI_add]
              exact pk_sub (by omega)
            rw [ew]
            refine nx (nI (10 * a + F - a), bV g a (F - a)) ?_
            unfold stC
            rw [if_neg z, if_neg z2]
      exact key2 (F + 1) 0 m c k (by omega)
  exact key 7 0 _ _ _ (by omega)
theorem sqM_4 (g : Nat → Bool) (F : Nat) (s : Int32 × Int32) : ∀ d, sqM g F (4 + d) s = sqM g F 4 s
  | 0 => rfl
  | d + 1 => by
    show stM (sqM g F (4 + d) s) (bV g (4 + d) (F - (4 + d))) _ = _
    have e : bV g (4 + d) (F - (4 + d)) = -6 := by unfold bV; exact if_neg (by omega)
    rw [e, sqM_4 g F s d]
    unfold stM
    exact if_pos rfl
