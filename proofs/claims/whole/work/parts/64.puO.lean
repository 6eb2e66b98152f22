/-! the reference: folds -/
theorem pm_cl0 : ((0 : Int32)).toNatClampNeg = 0 := rfl
theorem pm_whyNotFold {wid hei : Int32} {zz stk laid : Nat → Int32} {x : Int32} {post : Int32 → Int32 → Int32 → (Nat → Int32) → (Nat → Int32) → Prop} (p : Pap) (hz : pM zz p)
    (hbad : (∀ f, f < 4 → x ≠ nI f) → ∀ wid' hei' stk' laid', post (-2) wid' hei' stk' laid') (hno : ∀ f, f < 4 → x = nI f → ¬ qCan p f → ∀ wid' hei' stk' laid', post (-3) wid' hei' stk' laid')
    (hyes : ∀ f, f < 4 → x = nI f → qCan p f → ∀ wid' hei' stk' laid', post 0 wid' hei' stk' laid') : wp_X6_whyNotFold wid hei zz stk laid x post := by
  have ok := hz.1
  have bw := qw_b ok
  have bh := qh_b ok
  refine pm_in0 4 (by omega) (by omega) rfl (fun z => ?_) (fun f hf e => ?_)
  · exact ⟨fun q => absurd rfl q, fun _ => hbad z _ _ _ _⟩
  · refine ⟨fun _ => ?_, fun q => absurd q (by decide)⟩
    subst e
    refine pm_layNow p hz (fun wid' hei' stk' laid' hl => ?_)
    obtain ⟨rfl, rfl, -⟩ := hl
    intro P32 hP32
    have fin : ∀ t : Nat, 1 ≤ t → t ≤ 8 → (qCan p f ↔ 1 < t) → P32 (nI t) := by
      intro t h1 h8 hct
      apply hP32
      refine ⟨fun z => ?_, fun z => ?_⟩
      · have : t ≠ 1 := fun e => z (by rw [e]; rfl)
        exact hyes f hf rfl (hct.mpr (by omega)) _ _ _ _
      · have : t = 1 := (nI_eq (a := t) (b := 1) (by omega) (by omega)).mp z
        exact hno f hf rfl (fun q => absurd (hct.mp q) (by omega)) _ _ _ _
    refine pk_le 2 f (fun z => ?_) (fun z => ?_)
    · refine fin _ bh.1 bh.2 ?_
      unfold qCan
      rw [if_neg (by omega)]
    · refine fin _ bw.1 bw.2 ?_
      unfold qCan
      rw [if_pos z]
theorem pM_fold {zz : Nat → Int32} {p : Pap} {f : Nat} (hz : pM zz p) (hf : f < 4) (hc : qCan p f) : pM (upd (upd zz (1 + qn p) (nI f)) 0 (nI (qn p + 1))) (qFold p f) := by
  obtain ⟨ok, h0, h1, h2, h3, h4⟩ := hz
  have okf := qFold_ok ok hf hc
  have h6 : qn p + 1 ≤ 6 := fp_ok_6 okf
  refine ⟨okf, pu_upd_s _ _ _, fun i hi => ?_, fun c hc => ?_, fun j hj => ?_, fun r hr => ?_⟩
  · have hi' : i < qn p + 1 := hi
    rw [pu_upd_n _ _ (by omega), pu_upd]
    show _ = nI (if i = qn p then f else qf p i)
    by_cases z : i = qn p
    · rw [if_pos (by omega), if_pos z]
    · rw [if_neg (by omega), if_neg z]
      exact h1 i (by omega)
  · rw [pu_upd_n _ _ (by omega), pu_upd_n _ _ (by omega)]
    exact h2 c hc
  · rw [pu_upd_n _ _ (by omega), pu_upd_n _ _ (by omega)]
    exact h3 j hj
  · rw [pu_upd_n _ _ (by omega), pu_upd_n _ _ (by omega)]
    exact h4 r hr
theorem pm_folds {wid hei : Int32} {zz stk laid : Nat → Int32} {post : Int32 → Int32 → Int32 → (Nat → Int32) → (Nat → Int32) → (Nat → Int32) → Prop} (p : Pap) (hz : pM zz p) (f : Nat) (hf : f < 4) (hc : qCan p f)
    (h : ∀ wid' hei' zz' stk' laid', pM zz' (qFold p f) → post (nI (2 ^ (qn p + 1))) wid' hei' zz' stk' laid') : wp_X6_folds wid hei zz stk laid (nI f) post := by
  have hz' := pM_fold hz hf hc
  have h6 : qn p + 1 ≤ 6 := fp_ok_6 hz'.1
  have e : (upd (upd zz (((1 : Int32) + (zz ((0 : Int32)).toNatClampNeg))).toNatClampNeg (nI f)) ((0 : Int32)).toNatClampNeg (((upd zz (((1 : Int32) + (zz ((0 : Int32)).toNatClampNeg))).toNatClampNeg (nI f)) ((0 : Int32)).toNatClampNeg) + (1 : Int32))) = upd (upd zz (1 + qn p) (nI f)) 0 (nI (qn p + 1)) := by
    rw [pm_cl0, hz.2.1, show (1 : Int32) + nI (qn p) = nI (1 + qn p) from nI_add 1 _, nI_clamp (by omega), pu_upd_n _ _ (by omega), hz.2.1, pu_i1]
  unfold wp_X6_folds
  rw [e, pm_cl0, hz.2.1, show (1 : Int32) + nI (qn p) = nI (1 + qn p) from nI_add 1 _]
  refine ⟨vp_in_nI (n := 0) (by omega) (by omega), vp_in_nI (by omega) (by omega), vp_in_nI (n := 0) (by omega) (by omega), vp_in_nI (n := 0) (by omega) (by omega), ?_⟩
  refine pm_layNow (qFold p f) hz' (fun wid' hei' stk' laid' hl => ?_)
  obtain ⟨rfl, rfl, -⟩ := hl
  refine pm_layers _ _ hz'.1 rfl rfl ?_
  exact h _ _ _ _ _ hz'
theorem pm_fold {pastMany wid hei : Int32} {zz past stk laid : Nat → Int32} {x : Int32} {post : Int32 → Int32 → Int32 → Int32 → (Nat → Int32) → (Nat → Int32) → (Nat → Int32) → (Nat → Int32) → Prop} (k : Nat) (hk : k ≤ 5) (hp : Nat → Pap) (p : Pap) (hz : pM zz p) (hm : pastMany = nI k) (hh : pH past k hp)
    (hbad : (∀ f, f < 4 → x ≠ nI f) → ∀ wid' hei' stk' laid', post (-2) pastMany wid' hei' zz past stk' laid') (hno : ∀ f, f < 4 → x = nI f → ¬ qCan p f → ∀ wid' hei' stk' laid', post (-3) pastMany wid' hei' zz past stk' laid')
    (hyes : ∀ f, f < 4 → x = nI f → qCan p f → ∀ wid' hei' zz' past' stk' laid', pM zz' (qFold p f) → pH past' (hLen k) (hPush k hp p) → post (nI (2 ^ (qn p + 1))) (nI (hLen k)) wid' hei' zz' past' stk' laid') : wp_X6_fold pastMany wid hei zz past stk laid x post := by
  refine pm_whyNotFold p hz (fun z _ _ _ _ => ?_) (fun f hf e z _ _ _ _ => ?_) (fun f hf e z _ _ _ _ => ?_)
  · exact ⟨fun q => absurd q (by decide), fun _ => hbad z _ _ _ _⟩
  · exact ⟨fun q => absurd q (by decide), fun _ => hno f hf e z _ _ _ _⟩
  · refine ⟨fun _ => ?_, fun q => absurd (by decide) q⟩
    refine pm_record k hk hp p hz hm hh (fun past' hh' => ?_)
    subst e
    refine pm_folds p hz f hf z (fun _ _ zz' _ _ hz' => ?_)
    exact hyes f hf rfl z _ _ _ _ _ _ hz' hh'
theorem pM_back {zz : Nat → Int32} {p : Pap} {v : Int32} (hz : pM zz p) (hn : 0 < qn p) : pM (upd (upd zz 0 (nI (qn p - 1))) (1 + (qn p - 1)) v) (qBack p) := by
  obtain ⟨ok, h0, h1, h2, h3, h4⟩ := hz
  have h6 := fp_ok_6 ok
  refine ⟨qBack_ok ok, ?_, fun i hi => ?_, fun c hc => ?_, fun j hj => ?_, fun r hr => ?_⟩
  · rw [pu_upd_n _ _ (by omega), pu_upd_s]
    rfl
  · have hi' : i < qn p - 1 := hi
    rw [pu_upd_n _ _ (by omega), pu_upd_n _ _ (by omega)]
    exact h1 i (by omega)
  · rw [pu_upd_n _ _ (by omega), pu_upd_n _ _ (by omega)]
    exact h2 c hc
  · rw [pu_upd_n _ _ (by omega), pu_upd_n _ _ (by omega)]
    exact h3 j hj
  · rw [pu_upd_n _ _ (by omega), pu_upd_n _ _ (by omega)]
    exact h4 r hr
theorem pm_unfolds {zz : Nat → Int32} {post : Int32 → (Nat → Int32) → Prop} (p : Pap) (hz : pM zz p) (hn : 0 < qn p)
    (h : ∀ zz', pM zz' (qBack p) → post (nI (qf p (qn p - 1))) zz') : wp_X6_unfolds zz post := by
  have h6 := fp_ok_6 hz.1
  have e0 : (upd zz ((0 : Int32)).toNatClampNeg ((zz ((0 : Int32)).toNatClampNeg) - (1 : Int32))) = upd zz 0 (nI (qn p - 1)) := by
    rw [pm_cl0, hz.2.1, show nI (qn p) - (1 : Int32) = nI (qn p - 1) from pk_sub (b := 1) hn]
  have e1 : (1 : Int32) + ((upd zz 0 (nI (qn p - 1))) 0) = nI (1 + (qn p - 1)) := by
    rw [pu_upd_s]
    exact nI_add 1 _
  unfold wp_X6_unfolds
  rw [e0, pm_cl0, e1, nI_clamp (by omega)]
  refine ⟨vp_in_nI (n := 0) (by omega) (by omega), vp_in_nI (n := 0) (by omega) (by omega), vp_in_nI (n := 0) (by omega) (by omega), vp_in_nI (by omega) (by omega), ?_⟩
  intro w hw
  refine ⟨vp_in_nI (n := 0) (by omega) (by omega), vp_in_nI (by omega) (by omega), ?_⟩
  rw [hw, pu_upd_n _ _ (by omega), hz.2.2.1 _ (by omega)]
  exact h _ (pM_back hz hn)
theorem pm_unfold {pastMany : Int32} {zz past : Nat → Int32} {post : Int32 → Int32 → (Nat → Int32) → (Nat → Int32) → Prop} (k : Nat) (hk : k ≤ 5) (hp : Nat → Pap) (p : Pap) (hz : pM zz p) (hm : pastMany = nI k) (hh : pH past k hp)
    (hno : qn p = 0 → post (-3) pastMany zz past) (hyes : 0 < qn p → ∀ zz' past', pM zz' (qBack p) → pH past' (hLen k) (hPush k hp p) → post (nI (qf p (qn p - 1))) (nI (hLen k)) zz' past') : wp_X6_unfold pastMany zz past post := by
  have h6 := fp_ok_6 hz.1
  refine ⟨vp_in_nI (n := 0) (by omega) (by omega), ?_⟩
  rw [pm_cl0, hz.2.1]
  refine ⟨fun z => ?_, fun z => ?_⟩
  · have hn : 0 < qn p := by
      rcases Nat.eq_zero_or_pos (qn p) with e | e
      · exact absurd (by rw [e]; rfl) z
      · exact e
    refine pm_record k hk hp p hz hm hh (fun past' hh' => ?_)
    refine pm_unfolds p hz hn (fun zz' hz' => ?_)
    exact hyes hn _ _ hz' hh'
  · exact hno ((nI_eq (a := qn p) (b := 0) (by omega) (by omega)).mp z)
theorem pm_open {pastMany : Int32} {zz past : Nat → Int32} {post : Int32 → Int32 → (Nat → Int32) → (Nat → Int32) → Prop} (k : Nat) (hk : k ≤ 5) (hp : Nat → Pap) (p : Pap) (hz : pM zz p) (hm : pastMany = nI k) (hh : pH past k hp)
    (h : ∀ zz' past', pM zz' (qOpen p) → pH past' (hLen k) (hPush k hp p) → post (nI (qn p)) (nI (hLen k)) zz' past') : wp_X6_open pastMany zz past post := by
  refine pm_record k hk hp p hz hm hh (fun past' hh' => ?_)
  refine ⟨vp_in_nI (n := 0) (by omega) (by omega), ?_⟩
  refine nm_r (e' := nI (qn p)) (by rw [pm_cl0]; exact hz.2.1) ?_
  intro P11 hP11
  have key : ∀ j (z : Nat → Int32) (q : Pap), qn q = j → qf q = qf p → qp q = qp p → qc q = qc p → qg q = qg p → pM z q → P11 z := by
    intro j
    induction j with
    | zero =>
      intro z q e1 e2 e3 e4 e5 hq
      apply hP11
      refine ⟨vp_in_nI (n := 0) (by omega) (by omega), ?_⟩
      rw [pm_cl0, hq.2.1, e1]
      refine br_t (by decide) (h z past' ?_ hh')
      have : q = qOpen p := by
        obtain ⟨a, b, c, d, e⟩ := q
        show (a, b, c, d, e) = (0, qf p, qp p, qc p, qg p)
        rw [show a = 0 from e1, show b = qf p from e2, show c = qp p from e3, show d = qc p from e4, show e = qg p from e5]
      rw [← this]
      exact hq
    | succ j ih =>
      intro z q e1 e2 e3 e4 e5 hq
      have h6 := fp_ok_6 hq.1
      apply hP11
      refine ⟨vp_in_nI (n := 0) (by omega) (by omega), ?_⟩
      rw [pm_cl0, hq.2.1, e1]
      refine br_f (nI_nle (by omega) (by omega)) ?_
      refine pm_unfolds q hq (by omega) (fun zz' hz' => ?_)
      exact ih zz' (qBack q) (by show qn q - 1 = j; omega) e2 e3 e4 e5 hz'
  exact key (qn p) zz p rfl rfl rfl rfl rfl hz
theorem pm_size {wid hei : Int32} {zz stk laid : Nat → Int32} {x : Int32} {post : Int32 → Int32 → Int32 → (Nat → Int32) → (Nat → Int32) → Prop} (p : Pap) (hz : pM zz p)
    (hbad : (x.toInt < 0 ∨ 3 < x.toInt) → ∀ wid' hei' stk' laid', post (-2) wid' hei' stk' laid') (hyes : ∀ j, j < 4 → x = nI j → ∀ wid' hei' stk' laid', post (nI (if j = 0 then qw p else if j = 1 then qh p else if j = 2 then 2 ^ qn p else qn p)) wid' hei' stk' laid') : wp_X6_size wid hei zz stk laid x post := by
  refine pm_layNow p hz (fun wid' hei' stk' laid' hl => ?_)
  obtain ⟨rfl, rfl, -⟩ := hl
  refine ⟨fun z => hbad z _ _ _ _, fun e => ?_, fun e => ?_, fun e => ?_, fun e => ?_⟩
  · exact hyes 0 (by omega) e _ _ _ _
  · exact hyes 1 (by omega) e _ _ _ _
  · refine pm_layers _ _ hz.1 rfl rfl ?_
    exact hyes 2 (by omega) e _ _ _ _
  · refine ⟨vp_in_nI (n := 0) (by omega) (by omega), ?_⟩
    rw [pm_cl0, hz.2.1]
    exact hyes 3 (by omega) e _ _ _ _
theorem pm_foldAt {zz : Nat → Int32} {x : Int32} {post : Int32 → Prop} (p : Pap) (hz : pM zz p) (h0 : (∀ j, j < qn p → x ≠ nI j) → post (-1)) (h1 : ∀ j, j < qn p → x = nI j → post (nI (qf p j))) : wp_X6_foldAt zz x post := by
  have h6 := fp_ok_6 hz.1
  refine ⟨vp_in_nI (n := 0) (by omega) (by omega), ?_⟩
  rw [pm_cl0, hz.2.1]
  rcases Nat.eq_zero_or_pos (qn p) with e | e
  · rw [e]
    refine pm_in ?_
    rw [decide_eq_false]
    · exact br_t rfl (h0 (fun j hj => absurd hj (by omega)))
    · intro q
      have q1 := Int32.le_iff_toInt_le.mp q.1
      have q2 := Int32.le_iff_toInt_le.mp q.2
      have a1 : (0 : Int32).toInt = 0 := by decide
      have a2 : (nI 0 - (1 : Int32)).toInt = -1 := by decide
      omega
  · rw [show nI (qn p) - (1 : Int32) = nI (qn p - 1) from pk_sub (b := 1) e]
    refine pm_in0 (qn p) e (by omega) rfl (fun z => ?_) (fun j hj ej => ?_)
    · exact br_t rfl (h0 z)
    · refine br_f (by decide) ?_
      subst ej
      rw [show (1 : Int32) + nI j = nI (1 + j) from nI_add 1 j]
      refine ⟨vp_in_nI (by omega) (by omega), ?_⟩
      rw [nI_clamp (by omega), hz.2.2.1 j hj]
      exact h1 j hj rfl
