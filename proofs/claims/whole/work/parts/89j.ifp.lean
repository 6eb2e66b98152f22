/-! if a field was punched -/
def qFr (p : Pap) (c r : Nat) : Nat → Bool := fun x => !(qp p x || fp_in (qf p) (qn p) c r (2 ^ qn p) x)
theorem fp_in_s (kf : Nat → Nat) (n c r d x : Nat) : fp_in kf n c r (d + 1) x = (fp_in kf n c r d x || decide (fp_us kf n c r d / 2 = x)) := rfl
/-- the cells of a stack are all different -/
theorem fp_in_new {kf : Nat → Nat} {n c r i : Nat} (ok : fp_ok kf n) (hc : c < fp_w kf n) (hr : r < fp_h kf n) (hi : i < 2 ^ n) : fp_in kf n c r i (fp_us kf n c r i / 2) = false := by
  refine Bool.eq_false_iff.mpr (fun q => ?_)
  obtain ⟨i', h1, e⟩ := fp_in_iff.mp q
  have a := fp_pl_us kf n c r i ok hc hr hi
  have b := fp_pl_us kf n c r i' ok hc hr (by omega)
  rw [e, a] at b
  have : i = i' := congrArg (fun t : Nat × Nat × Nat × Nat => t.2.2.1) b
  omega
theorem i_add2 (x : Int32) : x + 2 - 2 = x := Int32.add_sub_cancel x 2
theorem pm_ifPunched {wid hei : Int32} {zz stk laid pcs : Nat → Int32} {x1 x2 : Int32} {post : Int32 → Int32 → Int32 → (Nat → Int32) → (Nat → Int32) → (Nat → Int32) → (Nat → Int32) → Prop} (p : Pap) (hz : pM zz p)
    (h0 : (∀ c r : Nat, c < qw p → r < qh p → ¬ (x1 = nI c ∧ x2 = nI r)) → ∀ wid' hei' stk' laid', post (-1) wid' hei' zz stk' laid' pcs)
    (h1 : ∀ c r : Nat, c < qw p → r < qh p → x1 = nI c → x2 = nI r → ∃ lab, Lb (qFr p c r) lab ∧ ∀ wid' hei' zz' stk' laid' pcs', pM zz' p → post (nI (ct (isR (qFr p c r) lab) 64)) wid' hei' zz' stk' laid' pcs') : wp_X6_ifPunched wid hei zz stk laid pcs x1 x2 post := by
  refine pm_top p hz (fun q wid' hei' stk' laid' hl => ?_) (fun c r hc hr e1 e2 wid' hei' stk' laid' hl => ?_)
  · exact ⟨fun z => absurd rfl z, fun _ => h0 q _ _ _ _⟩
  · obtain ⟨lab, hL, hpost⟩ := h1 c r hc hr e1 e2
    have ok := hz.1
    have bL := fp_L_b (fp_ok_6 ok)
    obtain ⟨hw, hh, hs⟩ := hl
    have hT : ∀ i, i < 2 ^ qn p → (r * qw p + c) * 2 ^ qn p + i < 64 := fun i hi => pm_lt_top ok hc hr hi
    have hsT : ∀ i, i < 2 ^ qn p → stk' ((r * qw p + c) * 2 ^ qn p + i) = nI (qu p c r i) := fun i hi => hs c r i hc hr hi
    have us : ∀ i, i < 2 ^ qn p → qu p c r i < 128 := fun i hi => fp_us_lt _ _ c r i ok hc hr hi
    have nw : ∀ i, i < 2 ^ qn p → fp_in (qf p) (qn p) c r i (qu p c r i / 2) = false := fun i hi => fp_in_new ok hc hr hi
    generalize hTe : (r * qw p + c) * 2 ^ qn p = T at hT hsT ⊢
    have T0 := hT 0 (by omega)
    refine ⟨fun _ => ?_, fun z => absurd z (pm_ne6 (by omega))⟩
    intro P18 h18
    have key : ∀ d i (zz' : Nat → Int32), i + d = 2 ^ qn p → (∀ j, j < 207 → zz' j = if 7 ≤ j ∧ j < 71 ∧ fp_in (qf p) (qn p) c r i (j - 7) = true then zz j + 2 else zz j) → P18 (nI i) zz' := by
      intro d
      induction d with
      | zero =>
        intro i zz' hi hq
        have e : i = 2 ^ qn p := by omega
        refine h18 _ _ (pm_layers (qf p) (qn p) ok hw hh (br_t (nI_le (by omega) (by omega)) ?_))
        rw [e] at hq
        refine pm_pieceMany (qFr p c r) (fun x hx => ?_) lab hL (fun pcs' => ?_)
        · rw [hq (7 + x) (by omega), show 7 + x - 7 = x by omega, hz.2.2.2.1 x hx]
          show _ ↔ (!(qp p x || fp_in (qf p) (qn p) c r (2 ^ qn p) x)) = true
          by_cases z : fp_in (qf p) (qn p) c r (2 ^ qn p) x = true
          · rw [if_pos ⟨by omega, by omega, z⟩, z, Bool.or_true]
            exact ⟨fun q => absurd q (by cases qp p x <;> decide), fun q => absurd q (by decide)⟩
          · rw [if_neg (fun q => z q.2.2), Bool.eq_false_iff.mpr z, Bool.or_false, bI_0]
            cases qp p x <;> decide
        · intro P65 h65
          have back : ∀ d i (zz' : Nat → Int32), i + d = 2 ^ qn p → (∀ j, j < 207 → zz' j = if 7 ≤ j ∧ j < 71 ∧ fp_in (qf p) (qn p) c r (2 ^ qn p) (j - 7) = true ∧ fp_in (qf p) (qn p) c r i (j - 7) = false then zz j + 2 else zz j) → P65 (nI i) zz' := by
            intro d
            induction d with
            | zero =>
              intro i zz' hi hq
              have e : i = 2 ^ qn p := by omega
              refine h65 _ _ (pm_layers (qf p) (qn p) ok hw hh (br_t (nI_le (by omega) (by omega)) ?_))
              rw [e] at hq
              exact hpost _ _ _ _ _ _ (pM_congr (fun j hj => by
                rw [hq j hj, if_neg (fun q => by
                  have q1 := q.2.2.1
                  rw [q.2.2.2] at q1
                  exact absurd q1 (by decide))]) hz)
            | succ d ih =>
              intro i zz' hi hq
              have hi' : i < 2 ^ qn p := by omega
              have u' := us i hi'
              have t' := hT i hi'
              refine h65 _ _ (pm_layers (qf p) (qn p) ok hw hh (br_f (nI_ge (by omega) (by omega)) ?_))
              rw [nI_add T i, nI_clamp (n := T + i) (by omega), hsT i hi', show nI (qu p c r i) / (2 : Int32) = nI (qu p c r i / 2) from pk_div (d := 2) (by omega) (by decide) (by decide), show (7 : Int32) + nI (qu p c r i / 2) = nI (7 + qu p c r i / 2) from nI_add 7 _, nI_clamp (n := 7 + qu p c r i / 2) (by omega), pu_i1]
              refine ⟨vp_in_nI (by omega) (by omega), vp_in_nI (by omega) (by omega), vp_in_nI (by omega) (by omega), ih (i + 1) _ (by omega) (fun j hj => ?_)⟩
              have inL : fp_in (qf p) (qn p) c r (2 ^ qn p) (qu p c r i / 2) = true := fp_in_iff.mpr ⟨i, hi', rfl⟩
              rw [pu_upd]
              by_cases z : j = 7 + qu p c r i / 2
              · rw [if_pos z, hq _ (by omega), show 7 + qu p c r i / 2 - 7 = qu p c r i / 2 by omega, if_pos ⟨by omega, by omega, inL, nw i hi'⟩, i_add2, z, show 7 + qu p c r i / 2 - 7 = qu p c r i / 2 by omega, fp_in_s, decide_eq_true (show fp_us (qf p) (qn p) c r i / 2 = qu p c r i / 2 from rfl), Bool.or_true, if_neg (fun q => absurd q.2.2.2 (by decide))]
              · rw [if_neg z, hq j hj, fp_in_s]
                by_cases y : 7 ≤ j ∧ j < 71
                · rw [decide_eq_false (show ¬ fp_us (qf p) (qn p) c r i / 2 = j - 7 from fun q => z (by show j = 7 + fp_us (qf p) (qn p) c r i / 2; omega)), Bool.or_false]
                · rw [if_neg (fun q => y ⟨q.1, q.2.1⟩), if_neg (fun q => y ⟨q.1, q.2.1⟩)]
          refine back (2 ^ qn p) 0 _ (by omega) (fun j hj => ?_)
          rw [hq j hj]
          by_cases y : 7 ≤ j ∧ j < 71 ∧ fp_in (qf p) (qn p) c r (2 ^ qn p) (j - 7) = true
          · rw [if_pos y, if_pos ⟨y.1, y.2.1, y.2.2, rfl⟩]
          · rw [if_neg y, if_neg (fun q => y ⟨q.1, q.2.1, q.2.2.1⟩)]
      | succ d ih =>
        intro i zz' hi hq
        have hi' : i < 2 ^ qn p := by omega
        have u' := us i hi'
        have t' := hT i hi'
        refine h18 _ _ (pm_layers (qf p) (qn p) ok hw hh (br_f (nI_ge (by omega) (by omega)) ?_))
        rw [nI_add T i, nI_clamp (n := T + i) (by omega), hsT i hi', show nI (qu p c r i) / (2 : Int32) = nI (qu p c r i / 2) from pk_div (d := 2) (by omega) (by decide) (by decide), show (7 : Int32) + nI (qu p c r i / 2) = nI (7 + qu p c r i / 2) from nI_add 7 _, nI_clamp (n := 7 + qu p c r i / 2) (by omega), pu_i1]
        refine ⟨vp_in_nI (by omega) (by omega), vp_in_nI (by omega) (by omega), vp_in_nI (by omega) (by omega), ih (i + 1) _ (by omega) (fun j hj => ?_)⟩
        rw [pu_upd]
        by_cases z : j = 7 + qu p c r i / 2
        · rw [if_pos z, hq _ (by omega), show 7 + qu p c r i / 2 - 7 = qu p c r i / 2 by omega, nw i hi', if_neg (fun q => absurd q.2.2 (by decide)), z, show 7 + qu p c r i / 2 - 7 = qu p c r i / 2 by omega, fp_in_s, decide_eq_true (show fp_us (qf p) (qn p) c r i / 2 = qu p c r i / 2 from rfl), Bool.or_true, if_pos ⟨by omega, by omega, rfl⟩]
        · rw [if_neg z, hq j hj, fp_in_s]
          by_cases y : 7 ≤ j ∧ j < 71
          · rw [decide_eq_false (show ¬ fp_us (qf p) (qn p) c r i / 2 = j - 7 from fun q => z (by show j = 7 + fp_us (qf p) (qn p) c r i / 2; omega)), Bool.or_false]
          · rw [if_neg (fun q => y ⟨q.1, q.2.1⟩), if_neg (fun q => y ⟨q.1, q.2.1⟩)]
    refine key (2 ^ qn p) 0 zz (by omega) (fun j hj => ?_)
    rw [if_neg (fun q => absurd (show false = true from q.2.2) (by decide))]
theorem gop_ifPunched : gOp_ifPunched gR := by
  intro isSaved npat ngoal ncol nmade nmac nks spat sgoal scol smade smac sks hkept hks hmade hmac hcol hpat hgoal tmade tmac tks wlen wpos wlet wcol wrow wnum chs pastMany isKept typed wid hei toldMany spot wrong zz past kz buf stk laid pcs told hR x1 x2
  obtain ⟨p, sp, ik, k, hp, tl, tx, hk, hC, hS, ei, ek, hH, hT, hM, hKz, eik, ekm, hPH, eT⟩ := hR
  have hC0 := hC
  obtain ⟨ok, hn, hm, hks_, h5, h6, h7⟩ := hC
  have fw := (fp_w_b _ _ ok).2
  have fh := (fp_h_b _ _ ok).2
  have bw := qw_b ok
  have bh := qh_b ok
  have bL := fp_L_b (fp_ok_6 ok)
  refine pu_hasField _ _ ok hn hm (fun z => ?_) (fun c r hc hr e1 e2 => ?_)
  · refine ⟨fun q => absurd rfl q, fun _ => ?_⟩
    exact pm_ifPunched p hM (fun _ _ _ _ _ => ⟨rfl, ⟨p, sp, ik, k, hp, tl, tx, hk, hC0, hS, ei, ek, hH, hT, hM, hKz, eik, ekm, hPH, eT⟩⟩) (fun c' r' hc' hr' e1' e2' => absurd ⟨e1', e2'⟩ (z c' r' hc' hr'))
  · refine ⟨fun _ => ?_, fun q => absurd q (by decide)⟩
    subst e1 e2
    obtain ⟨lab, hL⟩ := lab_ex (qFr p c r)
    refine pu_layers (qn p) (fp_ok_6 ok) hn ?_
    refine pu_uppermostCells (qf p) (qn p) ok hn hm hks_ c r (2 ^ qn p) hc hr (Nat.le_refl _) (fun s hs => ?_)
    refine pu_numberIn (qFr p c r) lab hL (fun i hi => by rw [ib_not _ hi, ib_or, h5 i hi, hs i hi]; rfl) ?_
    refine pm_ifPunched p hM (fun q => absurd ⟨rfl, rfl⟩ (q c r hc hr)) (fun c' r' hc' hr' e1' e2' => ?_)
    have ec : c' = c := (nI_eq (by omega) (by omega)).mp e1'.symm
    have er : r' = r := (nI_eq (by omega) (by omega)).mp e2'.symm
    subst ec er
    exact ⟨lab, hL, fun _ _ _ _ _ _ hM' => ⟨rfl, ⟨p, sp, ik, k, hp, tl, tx, hk, hC0, hS, ei, ek, hH, hT, hM', hKz, eik, ekm, hPH, eT⟩⟩⟩
