/-! the best folds -/
theorem pu_bestFolds {goal : Int64} {tmade tmac : Int32} {tks : Nat → Int32} {post : Int32 → Int32 → Int32 → (Nat → Int32) → Prop} (g : Nat → Bool) (hg : ∀ y, y < 64 → ib goal y = g y)
    (h : ∀ m c k, post (alC g 7).1 m c k) : wp_X5_bestFolds goal tmade tmac tks post := by
  intro P hP
  have key : ∀ d F m c k, F + d = 7 → P (alC g F).1 (alC g F).2 (nI F) m c k := by
    intro d
    induction d with
    | zero =>
      intro F m c k hF
      have : F = 7 := by omega
      subst this
      exact hP _ _ _ _ _ _ (br_t (nI_lt' (a := 6) (b := 7) (by omega) (by omega)) (h m c k))
    | succ d ih =>
      intro F m c k hF
      refine hP _ _ _ _ _ _ (br_f (nI_nlt' (a := 6) (b := F) (by omega) (by omega)) ?_)
      intro Q hQ
      have key2 : ∀ e a m c k, a + e = F + 1 → Q (sqC g F a (alC g F)).1 (sqC g F a (alC g F)).2 (nI a) m c k := by
        intro e
        induction e with
        | zero =>
          intro a m c k ha
          have : a = F + 1 := by omega
          subst this
          refine hQ _ _ _ _ _ _ (br_t (nI_lt' (by omega) (by omega)) ?_)
          rw [pu_i1]
          exact ih (F + 1) m c k (by omega)
        | succ e ih2 =>
          intro a m c k ha
          refine hQ _ _ _ _ _ _ (br_f (nI_nlt' (by omega) (by omega)) ?_)
          rw [show nI F - nI a = nI (F - a) from pk_sub (by omega)]
          refine pu_trial g hg a (F - a) (by omega) (by omega) (fun m' c' k' => ?_)
          intro P61 h61
          have nx : ∀ s : Int32 × Int32, s = stC (sqC g F a (alC g F)) (bV g a (F - a)) (nI (10 * a + F - a)) → P61 s.1 s.2 := fun s es => by
            refine h61 _ _ ?_
            rw [es, pu_i1]
            exact ih2 (a + 1) m' c' k' (by omega)
          refine ⟨fun z => nx _ ?_, fun z => ⟨fun z2 => nx _ ?_, fun z2 w e => ?_⟩⟩
          · unfold stC
            rw [if_pos z]
          · unfold stC
            rw [if_neg z, if_pos z2]
          · have ew : w = nI (10 * a + F - a) := by
              rw [e, show (10 : Int32) * nI a = nI (10 * a) from pk_mul 10 a, nI_add]
              exact pk_sub (by omega)
            rw [ew]
            refine nx (nI (10 * a + F - a), bV g a (F - a)) ?_
            unfold stC
            rw [if_neg z, if_neg z2]
      exact key2 (F + 1) 0 m c k (by omega)
  exact key 7 0 _ _ _ (by omega)
theorem sqM_4 (g : Nat → Bool) (F : Nat) (s : Int32 × Int32) : ∀ d, sqM g F (4 + d) s = sqM g F 4 s
  | 0 => rfl
  | d + 1 => by
    show stM (sqM g F (4 + d) s) (bV g (4 + d) (F - (4 + d))) _ = _
    have e : bV g (4 + d) (F - (4 + d)) = -6 := by unfold bV; exact if_neg (by omega)
    rw [e, sqM_4 g F s d]
    unfold stM
    exact if_pos rfl
theorem pm_bestFolds {wid hei : Int32} {zz stk laid : Nat → Int32} {post : Int32 → Int32 → Int32 → (Nat → Int32) → (Nat → Int32) → Prop} (p : Pap) (hz : pM zz p)
    (h : ∀ w' h' s' l', post (alM (qg p) 7).1 w' h' s' l') : wp_X6_bestFolds wid hei zz stk laid post := by
  intro P hP
  have key : ∀ d F w h_ s l, F + d = 7 → P (alM (qg p) F).1 (alM (qg p) F).2 (nI F) w h_ s l := by
    intro d
    induction d with
    | zero =>
      intro F w h_ s l hF
      have : F = 7 := by omega
      subst this
      exact hP _ _ _ _ _ _ _ (br_t (nI_lt' (a := 6) (b := 7) (by omega) (by omega)) (h w h_ s l))
    | succ d ih =>
      intro F w h_ s l hF
      refine hP _ _ _ _ _ _ _ (br_f (nI_nlt' (a := 6) (b := F) (by omega) (by omega)) ?_)
      intro Q hQ
      have stop : ∀ a w h_ s l, (a = 4 ∧ a ≤ F ∨ a = F + 1) → P (sqM (qg p) F a (alM (qg p) F)).1 (sqM (qg p) F a (alM (qg p) F)).2 (nI F + (1 : Int32)) w h_ s l := fun a w h_ s l ha => by
        have e : sqM (qg p) F a (alM (qg p) F) = alM (qg p) (F + 1) := by
          show _ = sqM (qg p) F (F + 1) (alM (qg p) F)
          rcases ha with ⟨e, l'⟩ | e
          · rw [e, show F + 1 = 4 + (F + 1 - 4) by omega, sqM_4]
          · rw [e]
        rw [e, pu_i1]
        exact ih (F + 1) w h_ s l (by omega)
      have key2 : ∀ e a w h_ s l, a + e = F + 1 → a ≤ 4 → Q (sqM (qg p) F a (alM (qg p) F)).1 (sqM (qg p) F a (alM (qg p) F)).2 (nI a) w h_ s l := by
        intro e
        induction e with
        | zero =>
          intro a w h_ s l ha h4
          refine hQ _ _ _ _ _ _ _ (fun P142 h142 => ?_)
          have fin := h142 (stop a w h_ s l (Or.inr (by omega)))
          refine ⟨fun _ => fin, fun _ => br_t (nI_lt' (by omega) (by omega)) fin⟩
        | succ e ih2 =>
          intro a w h_ s l ha h4
          refine hQ _ _ _ _ _ _ _ (fun P142 h142 => ?_)
          by_cases z4 : a = 4
          · exact br_t (nI_lt' (a := 3) (b := a) (by omega) (by omega)) (h142 (stop a w h_ s l (Or.inl ⟨z4, by omega⟩)))
          · refine br_f (nI_nlt' (a := 3) (b := a) (by omega) (by omega)) ?_
            refine br_f (nI_nlt' (by omega) (by omega)) ?_
            intro P136 h136
            have nx : ∀ (t : Int32 × Int32) w h_ s l, t = stM (sqM (qg p) F a (alM (qg p) F)) (bV (qg p) a (F - a)) (nI (10 * a + F - a)) → P136 t.1 t.2 w h_ s l := fun t w h_ s l et => by
              refine h136 _ _ _ _ _ _ ?_
              rw [et, pu_i1]
              exact ih2 (a + 1) w h_ s l (by omega) (by omega)
            rw [show nI F - nI a = nI (F - a) from pk_sub (by omega)]
            by_cases z3 : F - a ≤ 3
            · refine br_f (nI_nlt' (a := 3) (b := F - a) (by omega) (by omega)) ?_
              refine pm_lay (kM a) 0 (fp_ok_le _ (Nat.zero_le _) (kM_ok (a := a) (b := F - a) (by omega) z3)) rfl (fun i hi => absurd hi (by omega)) (fun w0 h0_ s0 l0 hl0 => ?_)
              intro P44 h44
              have okF : fp_ok (kM a) F := by
                have := kM_ok (a := a) (b := F - a) (by omega) z3
                rw [show a + (F - a) = F by omega] at this
                exact this
              have key3 : ∀ e j w1 h1_ s1 l1, j + e = F → pL (kM a) j w1 h1_ s1 → P44 (nI j) w1 h1_ s1 l1 := by
                intro e
                induction e with
                | zero =>
                  intro j w1 h1_ s1 l1 hj hl
                  have : j = F := by omega
                  subst this
                  refine h44 _ _ _ _ _ (br_t (nI_le (Nat.le_refl _) (by omega)) ?_)
                  refine pm_fieldsWanted (kM a) j okF hl p hz ?_
                  have er : pW (kM a) j (qg p) = bV (qg p) a (j - a) := by
                    unfold bV
                    rw [if_pos ⟨by omega, z3⟩, ← pW_MC (by omega) z3, show a + (j - a) = j by omega]
                  rw [er]
                  have ec : (10 : Int32) * nI a + nI j - nI a = nI (10 * a + j - a) := by
                    rw [show (10 : Int32) * nI a = nI (10 * a) from pk_mul 10 a, nI_add]
                    exact pk_sub (by omega)
                  rw [ec]
                  intro P102 h102
                  have c0 : stM (sqM (qg p) j a (alM (qg p) j)) (bV (qg p) a (j - a)) (nI (10 * a + j - a)) = sqM (qg p) j a (alM (qg p) j) → P102 (0 : Int32) := fun e => by
                    refine h102 _ ?_
                    intro P123 h123
                    refine br_t rfl (h123 _ ?_)
                    intro P135 h135
                    exact br_t rfl (h135 _ (nx (sqM (qg p) j a (alM (qg p) j)) _ _ _ _ e.symm))
                  have c1 : stM (sqM (qg p) j a (alM (qg p) j)) (bV (qg p) a (j - a)) (nI (10 * a + j - a)) = (nI (10 * a + j - a), bV (qg p) a (j - a)) → P102 (1 : Int32) := fun e => by
                    refine h102 _ ?_
                    intro P123 h123
                    refine br_f (by decide) (h123 _ ?_)
                    intro P135 h135
                    exact br_f (by decide) (h135 _ (nx (nI (10 * a + j - a), bV (qg p) a (j - a)) _ _ _ _ e.symm))
                  intro P101 h101
                  refine ⟨fun z => h101 (c0 ?_), fun z => ?_⟩
                  · unfold stM
                    rw [if_pos z]
                  · intro P97 h97
                    refine ⟨fun z2 => h97 (c1 ?_), fun z2 => ⟨fun z5 => h101 (c0 ?_), fun z5 => h97 (c1 ?_)⟩⟩
                    · unfold stM
                      rw [if_neg z, if_pos z2]
                    · unfold stM
                      rw [if_neg z, if_neg z2, if_pos z5]
                    · unfold stM
                      rw [if_neg z, if_neg z2, if_neg z5]
                | succ e ih3 =>
                  intro j w1 h1_ s1 l1 hj hl
                  refine h44 _ _ _ _ _ (br_f (nI_ge (by omega) (by omega)) ?_)
                  intro P63 h63
                  have go : ∀ t : Int32, t = nI (kM a j) → P63 t := fun t et => h63 _ (by
                    refine pm_layFold (kM a) j (fp_ok_le _ (by omega) okF) hl et (fun s2 l2 hl2 => ?_)
                    rw [pu_i1]
                    exact ih3 (j + 1) _ _ s2 l2 (by omega) hl2)
                  refine pk_le a j (fun z => go _ ?_) (fun z => go _ ?_)
                  · unfold kM
                    rw [if_neg (by omega)]
                    rfl
                  · unfold kM
                    rw [if_pos (by omega)]
                    rfl
              exact key3 F 0 _ _ _ _ (by omega) hl0
            · refine br_t (nI_lt' (a := 3) (b := F - a) (by omega) (by omega)) ?_
              refine nx (sqM (qg p) F a (alM (qg p) F)) _ _ _ _ ?_
              have e : bV (qg p) a (F - a) = -6 := by unfold bV; exact if_neg (by omega)
              rw [e]
              unfold stM
              exact (if_pos rfl).symm
      exact key2 (F + 1) 0 w h_ s l (by omega) (by omega)
  exact key 7 0 _ _ _ _ (by omega)
theorem gop_bestFolds : gOp_bestFolds gR := by
  intro isSaved npat ngoal ncol nmade nmac nks spat sgoal scol smade smac sks hkept hks hmade hmac hcol hpat hgoal tmade tmac tks wlen wpos wlet wcol wrow wnum chs pastMany isKept typed wid hei toldMany spot wrong zz past kz buf stk laid pcs told hR
  obtain ⟨p, sp, ik, k, hp, tl, tx, hk, hC, hS, ei, ek, hH, hT, hM, hKz, eik, ekm, hPH, eT⟩ := hR
  have hC0 := hC
  obtain ⟨ok, hn, hm, hks_, h5, h6, h7⟩ := hC
  refine pu_bestFolds (qg p) h7 (fun m c k' => ?_)
  refine pm_bestFolds p hM (fun w' h' s' l' => ?_)
  exact ⟨congrArg Prod.fst (al_eq (qg p) 6 (Nat.le_refl _)).1, ⟨p, sp, ik, k, hp, tl, tx, hk, hC0, hS, ei, ek, hH, hT, hM, hKz, eik, ekm, hPH, eT⟩⟩
