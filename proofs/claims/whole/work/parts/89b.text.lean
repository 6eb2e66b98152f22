/-! the text: a sign more, or none -/
theorem ch_nar : ∀ j, j < 127 → vp_nar .char (((nI j).toUInt32 % 65536).toInt32) = nI j := by decide +kernel
theorem gop_append : gOp_append gR := by
  intro isSaved npat ngoal ncol nmade nmac nks spat sgoal scol smade smac sks hkept hks hmade hmac hcol hpat hgoal tmade tmac tks wlen wpos wlet wcol wrow wnum chs pastMany isKept typed wid hei toldMany spot wrong zz past kz buf stk laid pcs told hR x1
  obtain ⟨p, sp, ik, k, hp, tl, tx, hk, hC, hS, ei, ek, hH, hT, hM, hKz, eik, ekm, hPH, eT⟩ := hR
  have hR0 := hT
  obtain ⟨t1, t2, t3, t4⟩ := hT
  obtain ⟨t5, t6⟩ := eT
  subst t2 t5
  intro P hP
  have bad : (∀ j : Nat, 33 ≤ j → j < 127 → x1 ≠ nI j) → P := fun z => hP (by
    refine pm_in ?_
    have e : decide ((33 : Int32) ≤ x1 ∧ x1 ≤ (126 : Int32)) = false := by
      rw [decide_eq_false_iff_not]
      rintro ⟨q1, q2⟩
      rcases pu_rng x1 127 (by omega) with y | y | ⟨j, hj, y⟩
      · have a := Int32.lt_iff_toInt_lt.mp y
        have b := Int32.le_iff_toInt_le.mp q1
        have c : (33 : Int32).toInt = 33 := by decide
        have d : (0 : Int32).toInt = 0 := by decide
        omega
      · have a := Int32.le_iff_toInt_le.mp y
        have b := Int32.le_iff_toInt_le.mp q2
        have c : (126 : Int32).toInt = 126 := by decide
        rw [nI_toInt (by omega)] at a
        omega
      · subst y
        by_cases h : 33 ≤ j
        · exact z j h hj rfl
        · exact nI_ge (a := j) (b := 33) (by omega) (by omega) q1
    rw [e]
    exact ⟨fun q => absurd rfl q, fun _ => ⟨rfl, ⟨p, sp, ik, k, hp, tl, tx, hk, hC, hS, ei, ek, hH, ⟨t1, rfl, t3, t4⟩, hM, hKz, eik, ekm, hPH, rfl, t6⟩⟩⟩)
  rcases pu_rng x1 127 (by omega) with y | y | ⟨j, hj, y⟩
  · refine br_t ?_ (bad (fun j h1 h2 e => by subst e; exact nI_pos (by omega) y))
    have a := Int32.lt_iff_toInt_lt.mp y
    have c : (33 : Int32).toInt = 33 := by decide
    have d : (0 : Int32).toInt = 0 := by decide
    rw [Int32.lt_iff_toInt_lt]
    omega
  · have a := Int32.le_iff_toInt_le.mp y
    rw [nI_toInt (by omega)] at a
    have c : (126 : Int32).toInt = 126 := by decide
    have d : (33 : Int32).toInt = 33 := by decide
    refine br_f (fun q => ?_) (br_f (fun q => ?_) (bad (fun j h1 h2 e => by subst e; exact nI_ge (a := j) (b := 127) h2 (by omega) y)))
    · have b := Int32.lt_iff_toInt_lt.mp q
      omega
    · have b := Int32.le_iff_toInt_le.mp q
      omega
  · subst y
    by_cases h : 33 ≤ j
    · refine br_f (nI_nlt' (a := j) (b := 33) h (by omega)) (br_t (nI_le (a := j) (b := 126) (by omega) (by omega)) ?_)
      have e : decide ((33 : Int32) ≤ nI j ∧ nI j ≤ (126 : Int32)) = true := by
        rw [decide_eq_true_eq]
        exact ⟨nI_le (a := 33) (b := j) h (by omega), nI_le (a := j) (b := 126) (by omega) (by omega)⟩
      intro P19 h19
      refine br_f (nI_pos (by omega)) ?_
      by_cases hl : tl < 60
      · refine br_t (nI_lt' (a := tl) (b := 60) hl (by omega)) ⟨vp_in_nI hl (by omega), Or.inr rfl, ?_⟩
        refine br_f (by decide) ?_
        refine pm_in ?_
        rw [e]
        refine ⟨fun _ => ⟨fun _ => ⟨vp_in_nI hl (by omega), ?_⟩, fun q => ?_⟩, fun q => absurd q (by decide)⟩
        rotate_left
        · have := (nI_eq (a := tl) (b := 60) (by omega) (by omega)).mp q
          omega
        · rw [ch_nar j hj, nI_clamp (by omega), pu_i1]
          refine ⟨rfl, ⟨p, sp, ik, k, hp, tl + 1, fun i => if i = tl then j else tx i, hk, hC, hS, ei, ek, hH, ⟨by omega, rfl, fun i hi => ?_, fun i hi => ?_⟩, hM, hKz, eik, ekm, hPH, rfl, fun i hi => ?_⟩⟩
          · show upd chs tl (nI j) i = nI (if i = tl then j else tx i)
            rw [pu_upd]
            by_cases z : i = tl
            · rw [if_pos z, if_pos z]
            · rw [if_neg z, if_neg z]; exact t3 i (by omega)
          · show 33 ≤ (if i = tl then j else tx i) ∧ (if i = tl then j else tx i) ≤ 126
            by_cases z : i = tl
            · rw [if_pos z]; omega
            · rw [if_neg z]; exact t4 i (by omega)
          · show upd buf tl (nI j) i = nI (if i = tl then j else tx i)
            rw [pu_upd]
            by_cases z : i = tl
            · rw [if_pos z, if_pos z]
            · rw [if_neg z, if_neg z]; exact t6 i (by omega)
      · have et : tl = 60 := by omega
        subst et
        refine br_f (nI_nlt' (a := 60) (b := 60) (by omega) (by omega)) (h19 ⟨Or.inl rfl, ?_⟩)
        refine br_t rfl ?_
        refine pm_in ?_
        rw [e]
        exact ⟨fun _ => ⟨fun q => absurd rfl q, fun _ => ⟨rfl, ⟨p, sp, ik, k, hp, 60, tx, hk, hC, hS, ei, ek, hH, ⟨t1, rfl, t3, t4⟩, hM, hKz, eik, ekm, hPH, rfl, t6⟩⟩⟩, fun q => absurd q (by decide)⟩
    · exact br_t (nI_lt' (a := j) (b := 33) (by omega) (by omega)) (bad (fun j' h1 h2 e => by
        have := (nI_eq (a := j) (b := j') (by omega) (by omega)).mp e
        omega))
theorem gop_clearText : gOp_clearText gR := by
  intro isSaved npat ngoal ncol nmade nmac nks spat sgoal scol smade smac sks hkept hks hmade hmac hcol hpat hgoal tmade tmac tks wlen wpos wlet wcol wrow wnum chs pastMany isKept typed wid hei toldMany spot wrong zz past kz buf stk laid pcs told hR
  obtain ⟨p, sp, ik, k, hp, tl, tx, hk, hC, hS, ei, ek, hH, hT, hM, hKz, eik, ekm, hPH, eT⟩ := hR
  have hR0 := hT
  obtain ⟨t1, t2, t3, t4⟩ := hT
  obtain ⟨t5, t6⟩ := eT
  refine ⟨?_, ⟨p, sp, ik, k, hp, 0, tx, hk, hC, hS, ei, ek, hH, ⟨by omega, rfl, fun i hi => absurd hi (by omega), fun i hi => absurd hi (by omega)⟩, hM, hKz, eik, ekm, hPH, rfl, fun i hi => absurd hi (by omega)⟩⟩
  rw [t2, t5]
