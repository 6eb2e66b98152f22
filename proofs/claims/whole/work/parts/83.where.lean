theorem nI_n0 {n : Nat} (h : 0 < n) (h2 : n < 2 ^ 31) : ¬ nI n = 0 := fun q => by
  have := (nI_eq (b := 0) h2 (by omega)).mp q
  omega
theorem pm_where {wid hei : Int32} {zz stk laid : Nat → Int32} {x1 x2 : Int32} {post : Int32 → Int32 → Int32 → (Nat → Int32) → (Nat → Int32) → Prop} (p : Pap) (hz : pM zz p)
    (h0 : (∀ j : Nat, j < 64 → x1 ≠ nI j) → post (-1) wid hei stk laid)
    (h1 : ∀ j : Nat, j < 64 → x1 = nI j → (x2.toInt < 0 ∨ 3 < x2.toInt) → ∀ wid' hei' stk' laid', post (-2) wid' hei' stk' laid')
    (h2 : ∀ j t : Nat, j < 64 → x1 = nI j → t < 4 → x2 = nI t → ∀ wid' hei' stk' laid', post (nI (if t = 0 then (fp_pl (qf p) (qn p) j).1 else if t = 1 then (fp_pl (qf p) (qn p) j).2.1 else if t = 2 then (fp_pl (qf p) (qn p) j).2.2.1 else (fp_pl (qf p) (qn p) j).2.2.2)) wid' hei' stk' laid') : wp_X6_where wid hei zz stk laid x1 x2 post := by
  have ok := hz.1
  refine pm_isCell (fun z => ?_) (fun x hx e => ?_)
  · exact ⟨fun q => absurd rfl q, fun _ => h0 z⟩
  · refine ⟨fun _ => ?_, fun q => absurd q (by decide)⟩
    refine pm_layNow p hz (fun wid' hei' stk' laid' hl => ?_)
    intro P hP
    have bp := fp_pl_b (qf p) (qn p) x ok hx
    have up := fp_us_pl (qf p) (qn p) x ok hx
    generalize hpl : fp_pl (qf p) (qn p) x = q at bp up
    obtain ⟨c0, r0, i0, u0⟩ := q
    simp only at bp up
    have wh := fp_wh _ _ ok
    have lt0 : (r0 * fp_w (qf p) (qn p) + c0) * 2 ^ qn p + i0 < 64 := by
      have a := pl_lt bp.1 bp.2.1 bp.2.2.1
      rw [wh] at a
      exact a
    have key : ∀ k j, j + k = (r0 * fp_w (qf p) (qn p) + c0) * 2 ^ qn p + i0 → P (nI j) := by
      intro k
      induction k with
      | zero =>
        intro j hj
        have ej : j = (r0 * fp_w (qf p) (qn p) + c0) * 2 ^ qn p + i0 := by omega
        have hs : stk' j = nI (2 * x + u0) := by rw [ej, hl.2.2 c0 r0 i0 bp.1 bp.2.1 bp.2.2.1, up]
        refine hP _ ⟨vp_in_nI (by omega) (by omega), fun _ => ?_, fun z => absurd ?_ z⟩
        · have bL := fp_L_b (fp_ok_6 ok)
          have bw := fp_w_b _ _ ok
          have cl : c0 < fp_w (qf p) (qn p) := bp.1
          have il : i0 < 2 ^ qn p := bp.2.2.1
          have ul : u0 ≤ 1 := bp.2.2.2
          have eL : j / 2 ^ qn p = r0 * fp_w (qf p) (qn p) + c0 := by
            rw [ej, Nat.mul_comm, Nat.mul_add_div (by omega), Nat.div_eq_of_lt il, Nat.add_zero]
          have mL : j % 2 ^ qn p = i0 := by
            rw [ej, Nat.mul_comm, Nat.mul_add_mod, Nat.mod_eq_of_lt il]
          have eW : (r0 * fp_w (qf p) (qn p) + c0) / fp_w (qf p) (qn p) = r0 := by
            rw [Nat.mul_comm, Nat.mul_add_div (by omega), Nat.div_eq_of_lt cl, Nat.add_zero]
          have mW : (r0 * fp_w (qf p) (qn p) + c0) % fp_w (qf p) (qn p) = c0 := by
            rw [Nat.mul_comm, Nat.mul_add_mod, Nat.mod_eq_of_lt cl]
          have rl : r0 * fp_w (qf p) (qn p) + c0 < 64 := by
            have : r0 * fp_w (qf p) (qn p) + c0 ≤ (r0 * fp_w (qf p) (qn p) + c0) * 2 ^ qn p := Nat.le_mul_of_pos_right _ (by omega)
            omega
          refine pm_layers _ _ ok hl.1 hl.2.1 ?_
          refine ⟨nI_n0 (by omega) (by omega), ?_⟩
          refine nm_r (e' := nI (r0 * fp_w (qf p) (qn p) + c0)) (by rw [← eL]; exact pk_div (by omega) (by omega) (by omega)) ?_
          refine ⟨fun z => h1 x hx e z _ _ _ _, fun e2 => ?_, fun e2 => ?_, fun e2 => ?_, fun e2 => ?_⟩
          · refine ⟨by rw [hl.1]; exact nI_n0 (by omega) (by omega), ?_⟩
            have a := h2 x 0 hx e (by omega) e2 wid' hei' stk' laid'
            rw [hpl] at a
            rw [hl.1] at a ⊢
            rw [show nI (r0 * fp_w (qf p) (qn p) + c0) - nI (r0 * fp_w (qf p) (qn p) + c0) / nI (fp_w (qf p) (qn p)) * nI (fp_w (qf p) (qn p)) = nI ((r0 * fp_w (qf p) (qn p) + c0) % fp_w (qf p) (qn p)) from pk_rem (by omega) (by omega) (by omega), mW]
            exact a
          · refine ⟨by rw [hl.1]; exact nI_n0 (by omega) (by omega), ?_⟩
            have a := h2 x 1 hx e (by omega) e2 wid' hei' stk' laid'
            rw [hpl] at a
            rw [hl.1] at a ⊢
            rw [show nI (r0 * fp_w (qf p) (qn p) + c0) / nI (fp_w (qf p) (qn p)) = nI ((r0 * fp_w (qf p) (qn p) + c0) / fp_w (qf p) (qn p)) from pk_div (by omega) (by omega) (by omega), eW]
            exact a
          · refine pm_layers _ _ ok hl.1 hl.2.1 ?_
            refine ⟨nI_n0 (by omega) (by omega), ?_⟩
            have a := h2 x 2 hx e (by omega) e2 wid' hei' stk' laid'
            rw [hpl] at a
            rw [show nI j - nI j / nI (2 ^ qn p) * nI (2 ^ qn p) = nI (j % 2 ^ qn p) from pk_rem (by omega) (by omega) (by omega), mL]
            exact a
          · refine ⟨vp_in_nI (by omega) (by omega), ?_⟩
            have a := h2 x 3 hx e (by omega) e2 wid' hei' stk' laid'
            rw [hpl] at a
            rw [nI_clamp (by omega), hs, show nI (2 * x + u0) - nI (2 * x + u0) / (2 : Int32) * (2 : Int32) = nI ((2 * x + u0) % 2) from pk_rem (d := 2) (by omega) (by decide) (by decide), show (2 * x + u0) % 2 = u0 by omega]
            exact a
        · have ul : u0 ≤ 1 := bp.2.2.2
          rw [nI_clamp (by omega), hs, e, show nI (2 * x + u0) / (2 : Int32) = nI ((2 * x + u0) / 2) from pk_div (d := 2) (by omega) (by decide) (by decide), show (2 * x + u0) / 2 = x by omega]
      | succ k ih =>
        intro j hj
        obtain ⟨c, r, i, hc, hr, hi, ej⟩ := pl_onto (qf p) (qn p) ok j (by omega)
        have us := fp_us_lt _ _ c r i ok hc hr hi
        have hs : stk' j = nI (fp_us (qf p) (qn p) c r i) := by rw [ej]; exact hl.2.2 c r i hc hr hi
        refine hP _ ⟨vp_in_nI (by omega) (by omega), fun z => ?_, fun _ => ?_⟩
        · exfalso
          rw [nI_clamp (by omega), hs, e, show nI (fp_us (qf p) (qn p) c r i) / (2 : Int32) = nI (fp_us (qf p) (qn p) c r i / 2) from pk_div (d := 2) (by omega) (by decide) (by decide), nI_eq (by omega) (by omega)] at z
          have pu := fp_pl_us (qf p) (qn p) c r i ok hc hr hi
          rw [z, hpl] at pu
          have e1 : c0 = c := congrArg (fun q => q.1) pu
          have e2 : r0 = r := congrArg (fun q => q.2.1) pu
          have e3 : i0 = i := congrArg (fun q => q.2.2.1) pu
          subst e1 e2 e3
          omega
        · rw [pu_i1]
          exact ih (j + 1) (by omega)
    exact key _ 0 (Nat.zero_add _)
theorem gop_where : gOp_where gR := by
  intro isSaved npat ngoal ncol nmade nmac nks spat sgoal scol smade smac sks hkept hks hmade hmac hcol hpat hgoal tmade tmac tks wlen wpos wlet wcol wrow wnum chs pastMany isKept typed wid hei toldMany spot wrong zz past kz buf stk laid pcs told hR x1 x2
  obtain ⟨p, sp, ik, k, hp, tl, tx, hk, hC, hS, ei, ek, hH, hT, hM, hKz, eik, ekm, hPH, eT⟩ := hR
  have hC0 := hC
  obtain ⟨ok, hn, hm, hks_, h5, h6, h7⟩ := hC
  refine pu_isCell x1 (fun z => ?_) (fun j hj e => ?_)
  · refine ⟨fun q => absurd rfl q, fun _ => ?_⟩
    exact pm_where p hM (fun _ => ⟨rfl, ⟨p, sp, ik, k, hp, tl, tx, hk, hC0, hS, ei, ek, hH, hT, hM, hKz, eik, ekm, hPH, eT⟩⟩) (fun j hj e => absurd e (z j hj)) (fun j s hj e => absurd e (z j hj))
  · refine ⟨fun _ => ?_, fun q => absurd q (by decide)⟩
    subst e
    intro P18 hP18
    have bad : (∀ s : Nat, s < 4 → x2 ≠ nI s) → (x2.toInt < 0 ∨ 3 < x2.toInt) → P18 := fun z z2 => hP18 (pm_where p hM (fun q => absurd rfl (q j hj)) (fun _ _ _ _ _ _ _ _ => ⟨rfl, ⟨p, sp, ik, k, hp, tl, tx, hk, hC0, hS, ei, ek, hH, hT, hM, hKz, eik, ekm, hPH, eT⟩⟩) (fun j' s hj' e' hs e2 => absurd e2 (z s hs)))
    rcases pu_rng x2 4 (by omega) with z | z | ⟨s, hs, rfl⟩
    · refine br_t z (bad (fun s hs e => by subst e; exact nI_pos (by omega) z) (Or.inl ?_))
      have z' := Int32.lt_iff_toInt_lt.mp z
      exact z'
    · have z' := Int32.le_iff_toInt_le.mp z
      rw [nI_toInt (by omega)] at z'
      refine br_f (pu_ng (by omega) z) ?_
      refine br_f (fun q => ?_) (bad (fun s hs e => by subst e; exact nI_ge hs (by omega) z) (Or.inr (by omega)))
      have q' := Int32.le_iff_toInt_le.mp q
      have a5 : (3 : Int32).toInt = 3 := by decide
      omega
    · refine br_f (nI_pos (by omega)) ?_
      refine br_t (nI_le (b := 3) (by omega) (by omega)) ?_
      refine pu_placeOf (qf p) (qn p) ok hn hks_ j s hj hs ?_
      refine pm_where p hM (fun q => absurd rfl (q j hj)) (fun _ _ _ z => absurd z (by rw [nI_toInt (by omega)]; omega)) (fun j' s' hj' e' hs' e2' _ _ _ _ => ?_)
      have ej : j' = j := (nI_eq (by omega) (by omega)).mp e'.symm
      have es : s' = s := (nI_eq (by omega) (by omega)).mp e2'.symm
      subst ej es
      exact ⟨rfl, ⟨p, sp, ik, k, hp, tl, tx, hk, hC0, hS, ei, ek, hH, hT, hM, hKz, eik, ekm, hPH, eT⟩⟩
