/-! the reference: ink, mend, looks -/
def qInk (p : Pap) (s : Nat) (v : Int32) : Pap := (qn p, qf p, qp p, fun j => if j = s then v else qc p j, qg p)
def qMend (p : Pap) (x : Nat) : Pap := (qn p, qf p, fun y => qp p y && !decide (y = x), fun j => if j / 2 = x then 0 else qc p j, qg p)
theorem pM_ink {zz : Nat → Int32} {p : Pap} {s : Nat} {v : Int32} (h : pM zz p) (hs : s < 128) : pM (upd zz (71 + s) v) (qInk p s v) := by
  obtain ⟨ok, h0, h1, h2, h3, h4⟩ := h
  have h6 := fp_ok_6 ok
  refine ⟨ok, ?_, fun i hi => ?_, fun c hc => ?_, fun j hj => ?_, fun r hr => ?_⟩
  · rw [pu_upd_n _ _ (by omega)]; exact h0
  · have hi' : i < qn p := hi
    rw [pu_upd_n _ _ (by omega)]; exact h1 i hi'
  · rw [pu_upd_n _ _ (by omega)]; exact h2 c hc
  · rw [pu_upd]
    show _ = if j = s then v else qc p j
    by_cases z : j = s
    · rw [if_pos (by omega), if_pos z]
    · rw [if_neg (by omega), if_neg z]
      exact h3 j hj
  · rw [pu_upd_n _ _ (by omega)]; exact h4 r hr
theorem pM_mend {zz : Nat → Int32} {p : Pap} {x : Nat} (h : pM zz p) (hx : x < 64) : pM (upd (upd (upd zz (7 + x) 0) (71 + 2 * x) 0) (71 + 2 * x + 1) 0) (qMend p x) := by
  obtain ⟨ok, h0, h1, h2, h3, h4⟩ := h
  have h6 := fp_ok_6 ok
  refine ⟨ok, ?_, fun i hi => ?_, fun c hc => ?_, fun j hj => ?_, fun r hr => ?_⟩
  · rw [pu_upd_n _ _ (by omega), pu_upd_n _ _ (by omega), pu_upd_n _ _ (by omega)]; exact h0
  · have hi' : i < qn p := hi
    rw [pu_upd_n _ _ (by omega), pu_upd_n _ _ (by omega), pu_upd_n _ _ (by omega)]; exact h1 i hi'
  · rw [pu_upd_n _ _ (by omega), pu_upd_n _ _ (by omega), pu_upd]
    show _ = bI (qp p c && !decide (c = x))
    by_cases z : c = x
    · rw [if_pos (by omega), decide_eq_true z, Bool.not_true, Bool.and_false]
      rfl
    · rw [if_neg (by omega), decide_eq_false z, Bool.not_false, Bool.and_true]
      exact h2 c hc
  · rw [pu_upd, pu_upd, pu_upd_n _ _ (by omega)]
    show _ = if j / 2 = x then 0 else qc p j
    by_cases z : j / 2 = x
    · rw [if_pos z]
      by_cases z2 : 71 + j = 71 + 2 * x + 1
      · rw [if_pos z2]
      · rw [if_neg z2, if_pos (by omega)]
    · rw [if_neg (by omega), if_neg (by omega), if_neg z]
      exact h3 j hj
  · rw [pu_upd_n _ _ (by omega), pu_upd_n _ _ (by omega), pu_upd_n _ _ (by omega)]; exact h4 r hr
theorem pm_whyNotInk {wid hei : Int32} {zz stk laid : Nat → Int32} {x1 x2 x3 : Int32} {post : Int32 → Int32 → Int32 → (Nat → Int32) → (Nat → Int32) → Prop} (p : Pap) (hz : pM zz p)
    (h0 : (∀ c r : Nat, c < qw p → r < qh p → ¬ (x1 = nI c ∧ x2 = nI r)) → ∀ wid' hei' stk' laid', post (-1) wid' hei' stk' laid')
    (h1 : ∀ c r : Nat, c < qw p → r < qh p → x1 = nI c → x2 = nI r → (∀ d : Nat, 1 ≤ d → d ≤ 5 → x3 ≠ nI d) → ∀ wid' hei' stk' laid', post (-2) wid' hei' stk' laid')
    (h2 : ∀ c r d : Nat, c < qw p → r < qh p → x1 = nI c → x2 = nI r → 1 ≤ d → d ≤ 5 → x3 = nI d → ∀ wid' hei' stk' laid', post 0 wid' hei' stk' laid') : wp_X6_whyNotInk wid hei zz stk laid x1 x2 x3 post := by
  have ok := hz.1
  have bL := fp_L_b (fp_ok_6 ok)
  refine pm_top p hz (fun z _ _ _ _ _ => ?_) (fun c r hc hr e1 e2 wid' hei' stk' laid' hl => ?_)
  · exact ⟨fun q => absurd rfl q, fun _ => h0 z _ _ _ _⟩
  · have lt := pm_lt_top ok hc hr (show 0 < 2 ^ qn p by omega)
    refine ⟨fun _ => ?_, fun q => absurd q (pm_ne6 (by omega))⟩
    refine pm_in ?_
    by_cases z : (1 : Int32) ≤ x3 ∧ x3 ≤ (5 : Int32)
    · rw [decide_eq_true z]
      refine br_f (by decide) ?_
      have z1 := Int32.le_iff_toInt_le.mp z.1
      have z2 := Int32.le_iff_toInt_le.mp z.2
      have a1 : (1 : Int32).toInt = 1 := by decide
      have a5 : (5 : Int32).toInt = 5 := by decide
      obtain ⟨d, hd, rfl⟩ := nI_of (x := x3) (fun q => by
        have := Int32.lt_iff_toInt_lt.mp q
        have a0 : (0 : Int32).toInt = 0 := by decide
        omega)
      rw [nI_toInt hd] at z1 z2
      exact h2 c r d hc hr e1 e2 (by omega) (by omega) rfl _ _ _ _
    · rw [decide_eq_false z]
      refine br_t rfl (h1 c r hc hr e1 e2 (fun d d1 d2 e => z ?_) _ _ _ _)
      subst e
      exact ⟨nI_le (a := 1) d1 (by omega), nI_le (b := 5) d2 (by omega)⟩
theorem pm_inks {wid hei : Int32} {zz stk laid : Nat → Int32} {x3 : Int32} {post : Int32 → Int32 → Int32 → (Nat → Int32) → (Nat → Int32) → (Nat → Int32) → Prop} (p : Pap) (hz : pM zz p) (c r : Nat) (hc : c < qw p) (hr : r < qh p)
    (h0 : qT p c r = 2 ^ qn p → ∀ wid' hei' stk' laid', post (-6) wid' hei' zz stk' laid')
    (h1 : qT p c r < 2 ^ qn p → ∀ wid' hei' zz' stk' laid', pM zz' (qInk p (qu p c r (qT p c r)) x3) → post (nI (qu p c r (qT p c r) / 2)) wid' hei' zz' stk' laid') : wp_X6_inks wid hei zz stk laid (nI c) (nI r) x3 post := by
  have ok := hz.1
  have h6 := fp_ok_6 ok
  have bL := fp_L_b h6
  have bw := qw_b ok
  have bh := qh_b ok
  refine pm_top p hz (fun z _ _ _ _ _ => absurd ⟨rfl, rfl⟩ (z c r hc hr)) (fun c' r' hc' hr' e1 e2 wid' hei' stk' laid' hl => ?_)
  have e1' : c = c' := (nI_eq (by omega) (by omega)).mp e1
  have e2' : r = r' := (nI_eq (by omega) (by omega)).mp e2
  subst e1' e2'
  refine pm_firstWhole p hz hl c r hc hr (fun z => ?_) (fun z => ?_)
  · exact ⟨fun q => absurd rfl q, fun _ => h0 z _ _ _ _⟩
  · have us := fp_us_lt _ _ c r _ ok hc hr z
    have us' : qu p c r (qT p c r) < 128 := us
    refine ⟨fun _ => ?_, fun q => absurd q (pm_ne6 (by omega))⟩
    rw [show (71 : Int32) + nI (qu p c r (qT p c r)) = nI (71 + qu p c r (qT p c r)) from nI_add 71 _]
    refine ⟨vp_in_nI (by omega) (by omega), ?_⟩
    rw [nI_clamp (by omega), show nI (qu p c r (qT p c r)) / (2 : Int32) = nI (qu p c r (qT p c r) / 2) from pk_div (d := 2) (by omega) (by decide) (by decide)]
    exact h1 z _ _ _ _ _ (pM_ink hz us')
theorem pm_ink {pastMany wid hei : Int32} {zz past stk laid : Nat → Int32} {x1 x2 x3 : Int32} {post : Int32 → Int32 → Int32 → Int32 → (Nat → Int32) → (Nat → Int32) → (Nat → Int32) → (Nat → Int32) → Prop} (k : Nat) (hk : k ≤ 5) (hp : Nat → Pap) (p : Pap) (hz : pM zz p) (hm : pastMany = nI k) (hh : pH past k hp)
    (h0 : (∀ c r : Nat, c < qw p → r < qh p → ¬ (x1 = nI c ∧ x2 = nI r)) → ∀ wid' hei' stk' laid', post (-1) pastMany wid' hei' zz past stk' laid')
    (h1 : ∀ c r : Nat, c < qw p → r < qh p → x1 = nI c → x2 = nI r → (∀ d : Nat, 1 ≤ d → d ≤ 5 → x3 ≠ nI d) → ∀ wid' hei' stk' laid', post (-2) pastMany wid' hei' zz past stk' laid')
    (h2 : ∀ c r d : Nat, c < qw p → r < qh p → x1 = nI c → x2 = nI r → 1 ≤ d → d ≤ 5 → x3 = nI d → qT p c r = 2 ^ qn p → ∀ wid' hei' past' stk' laid', pH past' (hLen k) (hPush k hp p) → post (-6) (nI (hLen k)) wid' hei' zz past' stk' laid')
    (h3 : ∀ c r d : Nat, c < qw p → r < qh p → x1 = nI c → x2 = nI r → 1 ≤ d → d ≤ 5 → x3 = nI d → qT p c r < 2 ^ qn p → ∀ wid' hei' zz' past' stk' laid', pM zz' (qInk p (qu p c r (qT p c r)) (nI d)) → pH past' (hLen k) (hPush k hp p) → post (nI (qu p c r (qT p c r) / 2)) (nI (hLen k)) wid' hei' zz' past' stk' laid') : wp_X6_ink pastMany wid hei zz past stk laid x1 x2 x3 post := by
  refine pm_whyNotInk p hz (fun z _ _ _ _ => ?_) (fun c r hc hr e1 e2 z _ _ _ _ => ?_) (fun c r d hc hr e1 e2 d1 d2 e3 _ _ _ _ => ?_)
  · exact ⟨fun q => absurd q (by decide), fun _ => h0 z _ _ _ _⟩
  · exact ⟨fun q => absurd q (by decide), fun _ => h1 c r hc hr e1 e2 z _ _ _ _⟩
  · refine ⟨fun _ => ?_, fun q => absurd (by decide) q⟩
    refine pm_record k hk hp p hz hm hh (fun past' hh' => ?_)
    subst e1 e2 e3
    refine pm_inks p hz c r hc hr (fun z _ _ _ _ => ?_) (fun z _ _ zz' _ _ hz' => ?_)
    · exact h2 c r d hc hr rfl rfl d1 d2 rfl z _ _ _ _ _ hh'
    · exact h3 c r d hc hr rfl rfl d1 d2 rfl z _ _ _ _ _ _ hz' hh'
theorem pm_mend {pastMany wid hei : Int32} {zz past stk laid : Nat → Int32} {x1 x2 : Int32} {post : Int32 → Int32 → Int32 → Int32 → (Nat → Int32) → (Nat → Int32) → (Nat → Int32) → (Nat → Int32) → Prop} (k : Nat) (hk : k ≤ 5) (hp : Nat → Pap) (p : Pap) (hz : pM zz p) (hm : pastMany = nI k) (hh : pH past k hp)
    (h0 : (∀ c r : Nat, c < qw p → r < qh p → ¬ (x1 = nI c ∧ x2 = nI r)) → ∀ wid' hei' stk' laid', post (-1) pastMany wid' hei' zz past stk' laid')
    (h1 : ∀ c r : Nat, c < qw p → r < qh p → x1 = nI c → x2 = nI r → qp p (qu p c r 0 / 2) = false → ∀ wid' hei' stk' laid', post (-3) pastMany wid' hei' zz past stk' laid')
    (h2 : ∀ c r : Nat, c < qw p → r < qh p → x1 = nI c → x2 = nI r → qp p (qu p c r 0 / 2) = true → ∀ wid' hei' zz' past' stk' laid', pM zz' (qMend p (qu p c r 0 / 2)) → pH past' (hLen k) (hPush k hp p) → post (nI (qu p c r 0 / 2)) (nI (hLen k)) wid' hei' zz' past' stk' laid') : wp_X6_mend pastMany wid hei zz past stk laid x1 x2 post := by
  have ok := hz.1
  have bL := fp_L_b (fp_ok_6 ok)
  refine pm_top p hz (fun z _ _ _ _ _ => ?_) (fun c r hc hr e1 e2 wid' hei' stk' laid' hl => ?_)
  · exact ⟨fun q => absurd rfl q, fun _ => h0 z _ _ _ _⟩
  · have lt := pm_lt_top ok hc hr (show 0 < 2 ^ qn p by omega)
    refine ⟨fun _ => ?_, fun q => absurd q (pm_ne6 (by omega))⟩
    refine ⟨vp_in_nI (by omega) (by omega), ?_⟩
    have hst := hl.2.2 c r 0 hc hr (by omega)
    rw [Nat.add_zero] at hst
    have us := fp_us_lt _ _ c r 0 ok hc hr (by omega)
    have us' : qu p c r 0 < 128 := us
    rw [nI_clamp (by omega), hst]
    refine nm_r (e' := nI (qu p c r 0 / 2)) (pk_div (d := 2) (by omega) (by decide) (by decide)) ?_
    generalize hx : qu p c r 0 / 2 = x at h1 h2 ⊢
    have hx64 : x < 64 := by omega
    rw [show (7 : Int32) + nI x = nI (7 + x) from nI_add 7 _]
    refine ⟨vp_in_nI (by omega) (by omega), ?_⟩
    rw [nI_clamp (by omega), hz.2.2.2.1 _ hx64]
    refine pu_brN (fun z => ?_) (fun z => ?_)
    · exact h1 c r hc hr e1 e2 (by rw [hx]; exact z) _ _ _ _
    · refine pm_record k hk hp p hz hm hh (fun past' hh' => ?_)
      rw [show (2 : Int32) * nI x = nI (2 * x) from pk_mul 2 x, show (71 : Int32) + nI (2 * x) = nI (71 + 2 * x) from nI_add 71 _, pu_i1]
      refine ⟨vp_in_nI (by omega) (by omega), vp_in_nI (by omega) (by omega), vp_in_nI (by omega) (by omega), ?_⟩
      rw [nI_clamp (by omega), nI_clamp (by omega)]
      have := h2 c r hc hr e1 e2
      rw [hx] at this
      exact this z _ _ _ _ _ _ (pM_mend hz hx64) hh'
theorem pm_layer {wid hei : Int32} {zz stk laid : Nat → Int32} {x1 x2 x3 x4 : Int32} {post : Int32 → Int32 → Int32 → (Nat → Int32) → (Nat → Int32) → Prop} (p : Pap) (hz : pM zz p)
    (h0 : (∀ c r i : Nat, c < qw p → r < qh p → i < 2 ^ qn p → ¬ (x1 = nI c ∧ x2 = nI r ∧ x3 = nI i)) → ∀ wid' hei' stk' laid', post (-1) wid' hei' stk' laid')
    (h1 : ∀ c r i : Nat, c < qw p → r < qh p → i < 2 ^ qn p → x1 = nI c → x2 = nI r → x3 = nI i → (x4.toInt < 0 ∨ 3 < x4.toInt) → ∀ wid' hei' stk' laid', post (-2) wid' hei' stk' laid')
    (h2 : ∀ c r i t : Nat, c < qw p → r < qh p → i < 2 ^ qn p → x1 = nI c → x2 = nI r → x3 = nI i → t < 4 → x4 = nI t → ∀ wid' hei' stk' laid', post (if t = 0 then nI (qu p c r i / 2) else if t = 1 then nI (qu p c r i % 2) else if t = 2 then bI (qp p (qu p c r i / 2)) else qc p (qu p c r i)) wid' hei' stk' laid') : wp_X6_layer wid hei zz stk laid x1 x2 x3 x4 post := by
  have ok := hz.1
  have bL := fp_L_b (fp_ok_6 ok)
  refine pm_top p hz (fun z _ _ _ _ _ => ?_) (fun c r hc hr e1 e2 wid' hei' stk' laid' hl => ?_)
  · intro P29 hP29
    exact br_t rfl (hP29 (h0 (fun c r i hc hr _ e => z c r hc hr ⟨e.1, e.2.1⟩) _ _ _ _))
  · intro P29 hP29
    have lt := pm_lt_top ok hc hr (show 0 < 2 ^ qn p by omega)
    refine br_f (pm_ne6 (by omega)) ?_
    refine pm_layers _ _ ok hl.1 hl.2.1 ?_
    rw [show nI (2 ^ qn p) - (1 : Int32) = nI (2 ^ qn p - 1) from pk_sub (b := 1) (by omega)]
    have bw := qw_b ok
    have bh := qh_b ok
    refine pm_in0 (2 ^ qn p) (by omega) (by omega) rfl (fun z => ?_) (fun i hi e3 => ?_)
    · exact ⟨fun q => absurd rfl q, fun _ => hP29 (h0 (fun c r i hc hr hi e => z i hi e.2.2) _ _ _ _)⟩
    · refine ⟨fun _ => ?_, fun q => absurd q (by decide)⟩
      have lti := pm_lt_top ok hc hr hi
      have us := fp_us_lt _ _ c r i ok hc hr hi
      have us' : qu p c r i < 128 := us
      have e3' := e3
      subst e3'
      rw [nI_add]
      refine ⟨vp_in_nI lti (by omega), ?_⟩
      refine nm_r (e' := nI (qu p c r i)) (by rw [nI_clamp (by omega)]; exact hl.2.2 c r i hc hr hi) ?_
      have dv : nI (qu p c r i) / (2 : Int32) = nI (qu p c r i / 2) := pk_div (d := 2) (by omega) (by decide) (by decide)
      have md : nI (qu p c r i) - nI (qu p c r i) / (2 : Int32) * (2 : Int32) = nI (qu p c r i % 2) := pk_rem (d := 2) (by omega) (by decide) (by decide)
      refine ⟨fun z => h1 c r i hc hr hi e1 e2 rfl z _ _ _ _, fun e => ?_, fun e => ?_, fun e => ?_, fun e => ?_⟩
      · rw [dv]
        exact h2 c r i 0 hc hr hi e1 e2 rfl (by omega) e _ _ _ _
      · rw [md]
        exact h2 c r i 1 hc hr hi e1 e2 rfl (by omega) e _ _ _ _
      · rw [dv, show (7 : Int32) + nI (qu p c r i / 2) = nI (7 + qu p c r i / 2) from nI_add 7 _]
        refine ⟨vp_in_nI (by omega) (by omega), ?_⟩
        rw [nI_clamp (by omega), hz.2.2.2.1 _ (by omega)]
        exact h2 c r i 2 hc hr hi e1 e2 rfl (by omega) e _ _ _ _
      · rw [show (71 : Int32) + nI (qu p c r i) = nI (71 + qu p c r i) from nI_add 71 _]
        refine ⟨vp_in_nI (by omega) (by omega), ?_⟩
        rw [nI_clamp (by omega), hz.2.2.2.2.1 _ us']
        exact h2 c r i 3 hc hr hi e1 e2 rfl (by omega) e _ _ _ _
theorem pm_seen {wid hei : Int32} {zz stk laid : Nat → Int32} {x1 x2 : Int32} {post : Int32 → Int32 → Int32 → (Nat → Int32) → (Nat → Int32) → Prop} (p : Pap) (hz : pM zz p)
    (h0 : (∀ c r : Nat, c < qw p → r < qh p → ¬ (x1 = nI c ∧ x2 = nI r)) → ∀ wid' hei' stk' laid', post (-1) wid' hei' stk' laid')
    (h1 : ∀ c r : Nat, c < qw p → r < qh p → x1 = nI c → x2 = nI r → qT p c r = 2 ^ qn p → ∀ wid' hei' stk' laid', post (-6) wid' hei' stk' laid')
    (h2 : ∀ c r : Nat, c < qw p → r < qh p → x1 = nI c → x2 = nI r → qT p c r < 2 ^ qn p → ∀ wid' hei' stk' laid', post (nI (10 * (qu p c r (qT p c r) / 2)) + qc p (qu p c r (qT p c r))) wid' hei' stk' laid') : wp_X6_seen wid hei zz stk laid x1 x2 post := by
  have ok := hz.1
  have bL := fp_L_b (fp_ok_6 ok)
  refine pm_top p hz (fun z _ _ _ _ _ => ?_) (fun c r hc hr e1 e2 wid' hei' stk' laid' hl => ?_)
  · exact ⟨fun q => absurd rfl q, fun _ => h0 z _ _ _ _⟩
  · have lt := pm_lt_top ok hc hr (show 0 < 2 ^ qn p by omega)
    refine ⟨fun _ => ?_, fun q => absurd q (pm_ne6 (by omega))⟩
    refine pm_firstWhole p hz hl c r hc hr (fun z => ?_) (fun z => ?_)
    · exact ⟨fun q => absurd rfl q, fun _ => h1 c r hc hr e1 e2 z _ _ _ _⟩
    · have us := fp_us_lt _ _ c r _ ok hc hr z
      have us' : qu p c r (qT p c r) < 128 := us
      refine ⟨fun _ => ?_, fun q => absurd q (pm_ne6 (by omega))⟩
      have a2 := h2 c r hc hr e1 e2 z
      generalize qu p c r (qT p c r) = u at us' a2 ⊢
      rw [show (71 : Int32) + nI u = nI (71 + u) from nI_add 71 _]
      refine ⟨vp_in_nI (by omega) (by omega), ?_⟩
      rw [nI_clamp (by omega), hz.2.2.2.2.1 _ us', show nI u / (2 : Int32) = nI (u / 2) from pk_div (d := 2) (by omega) (by decide) (by decide), show (10 : Int32) * nI (u / 2) = nI (10 * (u / 2)) from pk_mul 10 _]
      exact a2 _ _ _ _
theorem pm_isCell {x : Int32} {post : Int32 → Prop} (h0 : (∀ j : Nat, j < 64 → x ≠ nI j) → post 0) (h1 : ∀ j : Nat, j < 64 → x = nI j → post 1) : wp_X6_isCell x post :=
  pm_in0 64 (by omega) (by omega) rfl (fun z => ⟨Or.inl rfl, h0 z⟩) (fun j hj e => ⟨Or.inr rfl, h1 j hj e⟩)
theorem pm_colour {zz : Nat → Int32} {x1 x2 : Int32} {post : Int32 → Prop} (p : Pap) (hz : pM zz p)
    (h0 : (∀ j : Nat, j < 64 → x1 ≠ nI j) → post (-1)) (h1 : ∀ j : Nat, j < 64 → x1 = nI j → (∀ s : Nat, s < 2 → x2 ≠ nI s) → post (-2)) (h2 : ∀ j s : Nat, j < 64 → x1 = nI j → s < 2 → x2 = nI s → post (qc p (2 * j + s))) : wp_X6_colour zz x1 x2 post := by
  refine pm_isCell (fun z => ?_) (fun j hj e => ?_)
  · exact ⟨fun q => absurd rfl q, fun _ => h0 z⟩
  · refine ⟨fun _ => ?_, fun q => absurd q (by decide)⟩
    refine pm_in0 2 (by omega) (by omega) rfl (fun z => ?_) (fun s hs e2 => ?_)
    · exact br_t rfl (h1 j hj e z)
    · refine br_f (by decide) ?_
      have a2 := h2 j s hj e hs e2
      subst e e2
      rw [show (2 : Int32) * nI j = nI (2 * j) from pk_mul 2 j, show (71 : Int32) + nI (2 * j) = nI (71 + 2 * j) from nI_add 71 _, nI_add]
      refine ⟨vp_in_nI (by omega) (by omega), ?_⟩
      rw [nI_clamp (by omega), show 71 + 2 * j + s = 71 + (2 * j + s) by omega, hz.2.2.2.2.1 _ (by omega)]
      exact a2
theorem pm_hole {zz : Nat → Int32} {post : Int32 → Prop} (p : Pap) (hz : pM zz p) (c r : Nat) (hc : c < 8) (hr : r < 8) (h : post (bI (qp p (8 * r + c)))) : wp_X6_hole zz (nI c) (nI r) post := by
  unfold wp_X6_hole
  rw [show (8 : Int32) * nI r = nI (8 * r) from pk_mul 8 r, show (7 : Int32) + nI (8 * r) = nI (7 + 8 * r) from nI_add 7 _, nI_add]
  refine ⟨vp_in_nI (by omega) (by omega), ?_⟩
  rw [nI_clamp (by omega), show 7 + 8 * r + c = 7 + (8 * r + c) by omega, hz.2.2.2.1 _ (by omega)]
  exact h
/-- bits of a row, as a number -/
def rowN (f : Nat → Bool) : Nat → Nat
  | 0 => 0
  | n + 1 => rowN f n + if f n = true then 2 ^ n else 0
theorem rowN_lt (f : Nat → Bool) : ∀ n, rowN f n < 2 ^ n
  | 0 => Nat.one_pos
  | n + 1 => by
    have := rowN_lt f n
    rw [Nat.pow_succ]
    unfold rowN
    split <;> omega
theorem rowN_bit (f : Nat → Bool) : ∀ n i, i < n → (rowN f n).testBit i = f i
  | 0, i, h => absurd h (by omega)
  | n + 1, i, h => by
    have lt := rowN_lt f n
    have e : rowN f (n + 1) = 2 ^ n * (if f n = true then 1 else 0) + rowN f n := by
      show rowN f n + (if f n = true then 2 ^ n else 0) = _
      split <;> omega
    rw [e, Nat.testBit_two_pow_mul_add _ lt]
    by_cases z : i < n
    · rw [if_pos z]
      exact rowN_bit f n i z
    · have : i = n := by omega
      subst this
      rw [if_neg (by omega), Nat.sub_self]
      cases f i <;> rfl
theorem rowN_of {f : Nat → Bool} {n m : Nat} (hm : m < 2 ^ n) (h : ∀ i, i < n → m.testBit i = f i) : m = rowN f n := by
  apply Nat.eq_of_testBit_eq
  intro i
  by_cases z : i < n
  · rw [h i z, rowN_bit f n i z]
  · rw [Nat.testBit_lt_two_pow (Nat.lt_of_lt_of_le hm (Nat.pow_le_pow_right (by decide) (by omega))), Nat.testBit_lt_two_pow (Nat.lt_of_lt_of_le (rowN_lt f n) (Nat.pow_le_pow_right (by decide) (by omega)))]
theorem pm_holes {zz : Nat → Int32} {x : Int32} {post : Int32 → Prop} (p : Pap) (hz : pM zz p) (h0 : (∀ r : Nat, r < 8 → x ≠ nI r) → post (-1)) (h1 : ∀ r : Nat, r < 8 → x = nI r → post (nI (rowN (fun c => qp p (8 * r + c)) 8))) : wp_X6_holes zz x post := by
  refine pm_in0 8 (by omega) (by omega) rfl (fun z => ?_) (fun r hr e => ?_)
  · exact ⟨fun q => absurd rfl q, fun _ => h0 z⟩
  · refine ⟨fun _ => ?_, fun q => absurd q (by decide)⟩
    have a1 := h1 r hr e
    subst e
    intro P hP
    have key : ∀ k j, j + k = 8 → P (nI (rowN (fun c => qp p (8 * r + c)) j)) (nI j) := by
      intro k
      induction k with
      | zero =>
        intro j hj
        apply hP
        have hj' : j = 8 := by omega
        subst hj'
        exact br_t (nI_le (a := 8) (b := 8) (Nat.le_refl _) (by omega)) a1
      | succ k ih =>
        intro j hj
        apply hP
        refine br_f (nI_ge (a := j) (b := 8) (by omega) (by omega)) ?_
        refine pm_hole p hz j r (by omega) hr ?_
        refine nm_r (e' := nI (rowN (fun c => qp p (8 * r + c)) (j + 1))) ?_ ?_
        · have lt := rowN_lt (fun c => qp p (8 * r + c)) j
          rw [show rowN (fun c => qp p (8 * r + c)) (j + 1) = rowN (fun c => qp p (8 * r + c)) j + (if qp p (8 * r + j) = true then 2 ^ j else 0) from rfl]
          generalize rowN (fun c => qp p (8 * r + c)) j = a at lt ⊢
          have j7 : j ≤ 7 := by omega
          cases qp p (8 * r + j)
          · have : ∀ j, j ≤ 7 → bI false <<< (nI j &&& (31 : Int32)) = 0 := by decide +kernel
            rw [this j j7, Int32.or_zero]
            rfl
          · have sh : ∀ j, j ≤ 7 → bI true <<< (nI j &&& (31 : Int32)) = nI (2 ^ j) := by decide +kernel
            have bd : ∀ j, j ≤ 7 → 2 ^ j ≤ 128 := by decide
            have orr : ∀ j, j ≤ 7 → ∀ a, a < 2 ^ j → nI a ||| nI (2 ^ j) = nI (a + 2 ^ j) := by decide +kernel
            rw [sh j j7, orr j j7 a lt]
            rfl
        · rw [pu_i1]
          exact ih (j + 1) (by omega)
    exact key 8 0 (by omega)
