/-! counts, symmetries, the goal as the paper is -/
theorem pm_cnt {P : Int32 → Int32 → Prop} {post : Int32 → Prop} {S : Int32 → Int32 → Prop} (n : Nat) (f : Nat → Bool) (hn : n < 2 ^ 30) (h : post (nI (ct f n)))
    (hP : ∀ v1 v2, ((nI n ≤ v2 → post v1) ∧ (¬ nI n ≤ v2 → S v1 v2)) → P v1 v2)
    (hS : ∀ k j : Nat, j < n → k ≤ j → P (nI (k + if f j = true then 1 else 0)) (nI (j + 1)) → S (nI k) (nI j)) : P (0 : Int32) (0 : Int32) := by
  have key : ∀ d j, j + d = n → P (nI (ct f j)) (nI j) := by
    intro d
    induction d with
    | zero =>
      intro j hj
      have : j = n := by omega
      subst this
      exact hP _ _ (br_t (nI_le (Nat.le_refl _) (by omega)) h)
    | succ d ih =>
      intro j hj
      exact hP _ _ (br_f (nI_ge (by omega) (by omega)) (hS _ _ (by omega) (ct_le f j) (ih (j + 1) (by omega))))
  exact key n 0 (by omega)
theorem pm_p0 {P : Int32 → Int32 → Prop} {k j : Nat} (h : P (nI (k + 0)) (nI (j + 1))) : P (nI k + (0 : Int32)) (nI j + (1 : Int32)) := by
  rw [show nI k + (0 : Int32) = nI (k + 0) from nI_add k 0, pu_i1]
  exact h
theorem pm_p1 {P : Int32 → Int32 → Prop} {k j : Nat} (h : P (nI (k + 1)) (nI (j + 1))) : P (nI k + (1 : Int32)) (nI j + (1 : Int32)) := by
  rw [pu_i1, pu_i1]
  exact h
theorem pm_bit : ∀ m, m < 256 → ∀ j, j < 8 → ((nI m >>> (nI j &&& (31 : Int32))) &&& (1 : Int32)) = bI (m.testBit j) := by decide +kernel
theorem pm_wanted {zz : Nat → Int32} {post : Int32 → Prop} (p : Pap) (hz : pM zz p) (j : Nat) (hj : j < 64) (h : post (bI (qg p j))) : wp_X6_wanted zz (nI j) post := by
  obtain ⟨m, hm, e, hb⟩ := hz.2.2.2.2.2 (j / 8) (by omega)
  unfold wp_X6_wanted
  rw [show nI j / (8 : Int32) = nI (j / 8) from pk_div (d := 8) (by omega) (by decide) (by decide)]
  rw [show nI j - nI (j / 8) * (8 : Int32) = nI (j % 8) from by
    have := pk_rem (a := j) (d := 8) (by omega) (by decide) (by decide)
    rw [← this, show nI j / nI 8 = nI (j / 8) from pk_div (d := 8) (by omega) (by decide) (by decide)]
    rfl]
  rw [show (199 : Int32) + nI (j / 8) = nI (199 + j / 8) from nI_add 199 _]
  refine ⟨vp_in_nI (by omega) (by omega), ?_⟩
  rw [nI_clamp (by omega), e, pm_bit m hm (j % 8) (by omega), hb _ (by omega), show 8 * (j / 8) + j % 8 = j by omega]
  exact h
theorem pu_colouredSides {col : Nat → Int32} {post : Int32 → Prop} (f : Nat → Int32) (hf : ∀ s, s < 128 → col s = f s) (h : post (nI (ct (fun s => decide (f s ≠ 0)) 128))) : wp_X3_colouredSides col post := by
  intro P hP
  refine pm_cnt 128 (fun s => decide (f s ≠ 0)) (by decide) h hP (fun k j hj hk hn => ?_)
  refine ⟨vp_in_nI (by omega) (by omega), ?_⟩
  intro Q hQ
  rw [nI_clamp (by omega), hf j hj]
  by_cases z : f j = 0
  · refine br_t z (hQ _ (fun w e => ?_))
    subst e
    rw [if_neg (by simp [z])] at hn
    exact pm_p0 hn
  · refine br_f z (hQ _ (fun w e => ?_))
    subst e
    rw [if_pos (by simp [z])] at hn
    exact pm_p1 hn
theorem pm_count {zz pcs : Nat → Int32} {x : Int32} {post : Int32 → (Nat → Int32) → Prop} (p : Pap) (hz : pM zz p)
    (h : (x.toInt < 0 ∨ 5 < x.toInt) → post (-2) pcs) (h0 : x = 0 → post (nI (ct (qp p) 64)) pcs) (h1 : x = 1 → wp_X6_pieceMany zz pcs post) (h2 : x = 2 → wp_X6_largest zz pcs post)
    (h3 : x = 3 → post (nI (ct (fun s => decide (qc p s ≠ 0)) 128)) pcs) (h4 : x = 4 → post (nI (ct (qg p) 64)) pcs) (h5 : x = 5 → post (nI (ct (fun j => qp p j ^^ qg p j) 64)) pcs) : wp_X6_count zz pcs x post := by
  refine ⟨h, fun e => ?_, h1, h2, fun e => ?_, fun e => ?_, fun e => ?_⟩
  · intro P hP
    refine pm_cnt (post := fun r => post r pcs) 64 (qp p) (by decide) (h0 e) hP (fun k j hj hk hn => ?_)
    rw [show (7 : Int32) + nI j = nI (7 + j) from nI_add 7 j]
    refine ⟨vp_in_nI (by omega) (by omega), fun w q => ?_⟩
    subst q
    rw [nI_clamp (by omega), hz.2.2.2.1 j hj, pu_bIn, nI_add, pu_i1]
    exact hn
  · intro P hP
    refine pm_cnt (post := fun r => post r pcs) 128 (fun s => decide (qc p s ≠ 0)) (by decide) (h3 e) hP (fun k j hj hk hn => ?_)
    rw [show (71 : Int32) + nI j = nI (71 + j) from nI_add 71 j]
    refine ⟨vp_in_nI (by omega) (by omega), ?_⟩
    intro Q hQ
    rw [nI_clamp (by omega), hz.2.2.2.2.1 j hj]
    by_cases z : qc p j = 0
    · refine ⟨fun q => absurd z q, fun _ => hQ _ (fun w e => ?_)⟩
      subst e
      rw [if_neg (by simp [z])] at hn
      exact pm_p0 hn
    · refine ⟨fun _ => hQ _ (fun w e => ?_), fun q => absurd q z⟩
      subst e
      rw [if_pos (by simp [z])] at hn
      exact pm_p1 hn
  · intro P hP
    refine pm_cnt (post := fun r => post r pcs) 64 (qg p) (by decide) (h4 e) hP (fun k j hj hk hn => ?_)
    refine pm_wanted p hz j hj (fun w q => ?_)
    subst q
    rw [pu_bIn, nI_add, pu_i1]
    exact hn
  · intro P hP
    refine pm_cnt (post := fun r => post r pcs) 64 (fun j => qp p j ^^ qg p j) (by decide) (h5 e) hP (fun k j hj hk hn => ?_)
    refine pm_wanted p hz j hj ?_
    rw [show (7 : Int32) + nI j = nI (7 + j) from nI_add 7 j]
    refine ⟨vp_in_nI (by omega) (by omega), ?_⟩
    intro Q hQ
    rw [nI_clamp (by omega), hz.2.2.2.1 j hj]
    refine ⟨fun z => hQ _ (fun w e => ?_), fun z => hQ _ (fun w e => ?_)⟩
    · subst e
      rw [if_pos (by revert z; cases qp p j <;> cases qg p j <;> simp [bI])] at hn
      exact pm_p1 hn
    · subst e
      rw [if_neg (by revert z; cases qp p j <;> cases qg p j <;> simp [bI])] at hn
      exact pm_p0 hn
/-- the goal becomes the paper's holes -/
def qHere (p : Pap) : Pap := (qn p, qf p, qp p, qc p, qp p)
theorem pm_aimHere {pastMany : Int32} {zz past pcs : Nat → Int32} {post : Int32 → Int32 → (Nat → Int32) → (Nat → Int32) → (Nat → Int32) → Prop} (k : Nat) (hk : k ≤ 5) (hp : Nat → Pap) (p : Pap) (hz : pM zz p) (hm : pastMany = nI k) (hh : pH past k hp)
    (h : ∀ zz' past' pcs', pM zz' (qHere p) → pH past' (hLen k) (hPush k hp p) → post (nI (ct (qp p) 64)) (nI (hLen k)) zz' past' pcs') : wp_X6_aimHere pastMany zz past pcs post := by
  refine pm_record k hk hp p hz hm hh (fun past' hH' => ?_)
  intro P hP
  have key : ∀ d j zz', j + d = 8 → pM zz' (qn p, qf p, qp p, qc p, fun x => if x / 8 < j then qp p x else qg p x) → P (nI j) zz' := by
    intro d
    induction d with
    | zero =>
      intro j zz' hj hz'
      have : j = 8 := by omega
      subst this
      have hz2 : pM zz' (qHere p) := by
        refine pM_ext (p := (qn p, qf p, qp p, qc p, fun x => if x / 8 < 8 then qp p x else qg p x)) rfl rfl (fun c hc => rfl) (fun c hc => rfl) (fun c hc => ?_) hz'
        show qp p c = if c / 8 < 8 then qp p c else qg p c
        rw [if_pos (by omega)]
      refine hP _ _ (br_t (nI_le (a := 8) (b := 8) (Nat.le_refl _) (by omega)) ?_)
      refine pm_count (qHere p) hz2 (fun z => absurd z (by decide)) (fun z => absurd z (by decide)) (fun z => absurd z (by decide)) (fun z => absurd z (by decide)) (fun z => absurd z (by decide)) (fun _ => ?_) (fun z => absurd z (by decide))
      exact h _ _ _ hz2 hH'
    | succ d ih =>
      intro j zz' hj hz'
      refine hP _ _ (br_f (nI_ge (b := 8) (a := j) (by omega) (by omega)) ?_)
      refine pm_holes _ hz' (fun q => absurd rfl (q j (by omega))) (fun r hr e => ?_)
      have er : r = j := (nI_eq (by omega) (by omega)).mp e.symm
      subst er
      rw [show (199 : Int32) + nI r = nI (199 + r) from nI_add 199 r]
      refine ⟨vp_in_nI (by omega) (by omega), ?_⟩
      rw [nI_clamp (by omega), pu_i1]
      refine ih (r + 1) _ (by omega) ?_
      have lt := rowN_lt (fun c => qp p (8 * r + c)) 8
      refine pM_ext (p := qAim (qn p, qf p, qp p, qc p, fun x => if x / 8 < r then qp p x else qg p x) r (rowN (fun c => qp p (8 * r + c)) 8)) rfl rfl (fun c hc => rfl) (fun c hc => rfl) (fun c hc => ?_) (pM_aim hz' hr lt)
      show (if c / 8 < r + 1 then qp p c else qg p c) = if c / 8 = r then (rowN (fun c => qp p (8 * r + c)) 8).testBit (c % 8) else if c / 8 < r then qp p c else qg p c
      by_cases z : c / 8 = r
      · rw [if_pos (show c / 8 < r + 1 by omega), if_pos z, rowN_bit _ _ _ (by omega)]
        show qp p c = qp p (8 * r + c % 8)
        rw [show 8 * r + c % 8 = c by omega]
      · rw [if_neg z]
        by_cases z2 : c / 8 < r
        · rw [if_pos z2, if_pos (by omega)]
        · rw [if_neg z2, if_neg (by omega)]
  refine key 8 0 zz (by omega) (pM_ext (p := p) rfl rfl (fun c hc => rfl) (fun c hc => rfl) (fun c hc => ?_) hz)
  show (if c / 8 < 0 then qp p c else qg p c) = qg p c
  rw [if_neg (by omega)]
theorem gop_aimHere : gOp_aimHere gR := by
  intro isSaved npat ngoal ncol nmade nmac nks spat sgoal scol smade smac sks hkept hks hmade hmac hcol hpat hgoal tmade tmac tks wlen wpos wlet wcol wrow wnum chs pastMany isKept typed wid hei toldMany spot wrong zz past kz buf stk laid pcs told hR
  obtain ⟨p, sp, ik, k, hp, tl, tx, hk, hC, hS, ei, ek, hH, hT, hM, hKz, eik, ekm, hPH, eT⟩ := hR
  refine pu_note k hk hp p ek hC hH (fun hks' hmade' hmac' hcol' hpat' hgoal' hH' hCk => ?_)
  refine pu_bitCount ?_
  have e1 : cB npat = ct (qp p) 64 := ct_congr (fun c hc => hC.2.2.2.2.1 c hc)
  have e2 := ct_le (qp p) 64
  rw [e1]
  refine pu_keep k hk hp p ek hCk hH' (fun q => absurd q (ne_nI (by omega))) (fun _ _ _ _ _ _ _ hH'' => ?_)
  refine pm_aimHere k hk hp p hM ekm hPH (fun zz' past' pcs' hM' hPH' => ?_)
  have hC' : pC npat npat ncol nmade nmac nks (qHere p) := ⟨hC.1, hC.2.1, hC.2.2.1, hC.2.2.2.1, hC.2.2.2.2.1, hC.2.2.2.2.2.1, hC.2.2.2.2.1⟩
  exact ⟨rfl, ⟨qHere p, sp, ik, hLen k, hPush k hp p, tl, tx, hLen_le k, hC', hS, ei, rfl, hH'', hT, hM', hKz, eik, rfl, hPH', eT⟩⟩
