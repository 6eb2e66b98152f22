/-! the reference: holes and ink -/
theorem pM_ext {zz : Nat → Int32} {p p' : Pap} (e1 : qn p' = qn p) (e2 : qf p' = qf p) (e3 : ∀ c, c < 64 → qp p' c = qp p c) (e4 : ∀ j, j < 128 → qc p' j = qc p j) (e5 : ∀ c, c < 64 → qg p' c = qg p c) (h : pM zz p) : pM zz p' := by
  obtain ⟨ok, h0, h1, h2, h3, h4⟩ := h
  refine ⟨by rw [e1, e2]; exact ok, by rw [e1]; exact h0, fun i hi => by rw [e2]; rw [e1] at hi; exact h1 i hi, fun c hc => by rw [e3 c hc]; exact h2 c hc, fun j hj => by rw [e4 j hj]; exact h3 j hj, fun r hr => ?_⟩
  obtain ⟨m, a, b, c⟩ := h4 r hr
  exact ⟨m, a, b, fun x hx => by rw [e5 _ (by omega)]; exact c x hx⟩
theorem ct_set (p : Nat → Bool) (x : Nat) : ∀ N, x < N → ct (fun y => p y || decide (x = y)) N = ct p N + if p x = true then 0 else 1
  | 0, h => absurd h (by omega)
  | N + 1, h => by
    unfold ct
    by_cases z : x = N
    · subst z
      have : ct (fun y => p y || decide (x = y)) x = ct p x := ct_congr (fun k hk => by rw [decide_eq_false (by omega), Bool.or_false])
      rw [this]
      cases p x <;> simp
    · rw [ct_set p x N (by omega), decide_eq_false z, Bool.or_false]
      omega
theorem ct_mono {p q : Nat → Bool} : ∀ N, (∀ k, k < N → p k = true → q k = true) → ct p N ≤ ct q N
  | 0, _ => Nat.le_refl 0
  | N + 1, h => by
    have ih := ct_mono N (fun k hk => h k (by omega))
    unfold ct
    have h1 := h N (by omega)
    by_cases z : p N = true
    · rw [if_pos z, if_pos (h1 z)]
      omega
    · rw [if_neg z]
      omega
def qHole (p : Pap) (x : Nat) : Pap := (qn p, qf p, fun y => qp p y || decide (x = y), qc p, qg p)
def qPunch (p : Pap) (c r d : Nat) : Pap := (qn p, qf p, fun y => qp p y || fp_in (qf p) (qn p) c r d y, qc p, qg p)
theorem pM_hole {zz : Nat → Int32} {p : Pap} {x : Nat} (h : pM zz p) (hx : x < 64) : pM (upd zz (7 + x) 1) (qHole p x) := by
  obtain ⟨ok, h0, h1, h2, h3, h4⟩ := h
  have h6 := fp_ok_6 ok
  refine ⟨ok, ?_, fun i hi => ?_, fun c hc => ?_, fun j hj => ?_, fun r hr => ?_⟩
  · rw [pu_upd_n _ _ (by omega)]; exact h0
  · have hi' : i < qn p := hi
    rw [pu_upd_n _ _ (by omega)]; exact h1 i hi'
  · rw [pu_upd]
    show _ = bI (qp p c || decide (x = c))
    by_cases z : x = c
    · subst z
      rw [if_pos rfl, decide_eq_true rfl, Bool.or_true]
      rfl
    · rw [if_neg (by omega), decide_eq_false z, Bool.or_false]
      exact h2 c hc
  · rw [pu_upd_n _ _ (by omega)]; exact h3 j hj
  · rw [pu_upd_n _ _ (by omega)]; exact h4 r hr
def qNew (p : Pap) (c r d : Nat) : Nat := ct (qp (qPunch p c r d)) 64 - ct (qp p) 64
theorem pm_makesHoles {wid hei : Int32} {zz stk laid : Nat → Int32} {post : Int32 → Int32 → Int32 → (Nat → Int32) → (Nat → Int32) → (Nat → Int32) → Prop} (p : Pap) (hz : pM zz p) (c r d : Nat) (hc : c < qw p) (hr : r < qh p) (hd : d ≤ 2 ^ qn p)
    (h : ∀ wid' hei' zz' stk' laid', pM zz' (qPunch p c r d) → post (nI (qNew p c r d)) wid' hei' zz' stk' laid') : wp_X6_makesHoles wid hei zz stk laid (nI c) (nI r) (nI d) post := by
  have ok := hz.1
  have h6 := fp_ok_6 ok
  have bL := fp_L_b h6
  have bw := qw_b ok
  have bh := qh_b ok
  refine pm_top p hz (fun z _ _ _ _ _ => absurd ⟨rfl, rfl⟩ (z c r hc hr)) (fun c' r' hc' hr' e1 e2 wid' hei' stk' laid' hl => ?_)
  have e1' : c = c' := (nI_eq (by omega) (by omega)).mp e1
  have e2' : r = r' := (nI_eq (by omega) (by omega)).mp e2
  subst e1' e2'
  intro P14 hP14
  have mono : ∀ k, ct (qp p) 64 ≤ ct (qp (qPunch p c r k)) 64 := fun k => ct_mono 64 (fun y _ hy => by show (qp p y || _) = true; rw [hy]; rfl)
  have key : ∀ k2 k (z : Nat → Int32), k + k2 = d → pM z (qPunch p c r k) → P14 (nI (qNew p c r k)) (nI k) z := by
    intro k2
    induction k2 with
    | zero =>
      intro k z hk hz'
      apply hP14
      have hk' : k = d := by omega
      subst hk'
      exact br_t (nI_le (Nat.le_refl _) (by omega)) (h _ _ _ _ _ hz')
    | succ k2 ih =>
      intro k z hk hz'
      apply hP14
      have lt := pm_lt_top ok hc hr (show k < 2 ^ qn p by omega)
      have us := fp_us_lt _ _ c r k ok hc hr (by omega)
      generalize hu : fp_us (qf p) (qn p) c r k = u at us
      refine br_f (nI_ge (by omega) (by omega)) ?_
      rw [nI_add]
      refine ⟨vp_in_nI lt (by omega), ?_⟩
      rw [nI_clamp (by omega), hl.2.2 c r k hc hr (by omega), hu]
      refine nm_r (e' := nI (u / 2)) (pk_div (d := 2) (by omega) (by decide) (by decide)) ?_
      rw [show (7 : Int32) + nI (u / 2) = nI (7 + u / 2) from nI_add 7 _]
      refine ⟨vp_in_nI (by omega) (by omega), ?_⟩
      rw [nI_clamp (by omega), hz'.2.2.2.1 _ (by omega)]
      intro P54 hP54
      have fin : ∀ b : Bool, b = qp (qPunch p c r k) (u / 2) → P54 (if b = true then 0 else 1) := by
        intro b hb
        apply hP54
        have e : qNew p c r (k + 1) = qNew p c r k + if b = true then 0 else 1 := by
          have q1 : ct (qp (qPunch p c r (k + 1))) 64 = ct (fun y => qp (qPunch p c r k) y || decide (u / 2 = y)) 64 := ct_congr (fun y _ => by
            show (qp p y || (fp_in (qf p) (qn p) c r k y || decide (fp_us (qf p) (qn p) c r k / 2 = y))) = ((qp p y || fp_in (qf p) (qn p) c r k y) || decide (u / 2 = y))
            rw [hu, Bool.or_assoc])
          have q2 := ct_set (qp (qPunch p c r k)) (u / 2) 64 (by omega)
          have q3 := mono k
          unfold qNew
          rw [q1, q2, ← hb]
          omega
        refine nm_r (e' := nI (qNew p c r (k + 1))) ?_ ?_
        · rw [e]
          cases b
          · exact nI_add _ 1
          · exact nI_add _ 0
        refine ⟨vp_in_nI (by omega) (by omega), ?_⟩
        rw [pu_i1]
        refine ih (k + 1) _ (by omega) (pM_ext (p := qHole (qPunch p c r k) (u / 2)) rfl rfl (fun y _ => ?_) (fun _ _ => rfl) (fun _ _ => rfl) (pM_hole hz' (show u / 2 < 64 by omega)))
        show (qp p y || (fp_in (qf p) (qn p) c r k y || decide (fp_us (qf p) (qn p) c r k / 2 = y))) = ((qp p y || fp_in (qf p) (qn p) c r k y) || decide (u / 2 = y))
        rw [hu, Bool.or_assoc]
      refine ⟨fun q => ?_, fun q => ?_⟩
      · have := bI_n.mp q
        have f := fin true this.symm
        exact f
      · have := bI_0.mp q
        have f := fin false this.symm
        exact f
  have e0 : qNew p c r 0 = 0 := by
    unfold qNew
    have : ct (qp (qPunch p c r 0)) 64 = ct (qp p) 64 := ct_congr (fun y _ => by show (qp p y || false) = qp p y; rw [Bool.or_false])
    omega
  have k0 := key d 0 zz (by omega) (pM_ext (p := p) rfl rfl (fun y _ => by show (qp p y || false) = qp p y; rw [Bool.or_false]) (fun _ _ => rfl) (fun _ _ => rfl) hz)
  rw [e0] at k0
  exact k0
theorem pm_ne6 {q : Nat} (h : q < 2 ^ 31) : ¬ nI q = (-6 : Int32) := by
  intro e
  have := congrArg Int32.toInt e
  rw [nI_toInt h] at this
  have h6 : (-6 : Int32).toInt = -6 := by decide
  omega
theorem pm_whyNotPunch {wid hei : Int32} {zz stk laid : Nat → Int32} {x1 x2 x3 : Int32} {post : Int32 → Int32 → Int32 → (Nat → Int32) → (Nat → Int32) → Prop} (p : Pap) (hz : pM zz p)
    (h0 : (∀ c r : Nat, c < qw p → r < qh p → ¬ (x1 = nI c ∧ x2 = nI r)) → ∀ wid' hei' stk' laid', post (-1) wid' hei' stk' laid')
    (h1 : ∀ c r : Nat, c < qw p → r < qh p → x1 = nI c → x2 = nI r → (∀ d : Nat, 1 ≤ d → d ≤ 2 ^ qn p → x3 ≠ nI d) → ∀ wid' hei' stk' laid', post (-2) wid' hei' stk' laid')
    (h2 : ∀ c r d : Nat, c < qw p → r < qh p → x1 = nI c → x2 = nI r → 1 ≤ d → d ≤ 2 ^ qn p → x3 = nI d → ∀ wid' hei' stk' laid', post 0 wid' hei' stk' laid') : wp_X6_whyNotPunch wid hei zz stk laid x1 x2 x3 post := by
  have ok := hz.1
  have bL := fp_L_b (fp_ok_6 ok)
  refine pm_top p hz (fun z _ _ _ _ _ => ?_) (fun c r hc hr e1 e2 wid' hei' stk' laid' hl => ?_)
  · exact ⟨fun q => absurd rfl q, fun _ => h0 z _ _ _ _⟩
  · have lt := pm_lt_top ok hc hr (show 0 < 2 ^ qn p by omega)
    refine ⟨fun _ => ?_, fun q => absurd q (pm_ne6 (by omega))⟩
    obtain ⟨rfl, rfl, -⟩ := hl
    refine pm_layers _ _ ok rfl rfl ?_
    refine pm_in ?_
    by_cases z : (1 : Int32) ≤ x3 ∧ x3 ≤ nI (2 ^ qn p)
    · rw [decide_eq_true z]
      refine br_f (by decide) ?_
      have z1 := Int32.le_iff_toInt_le.mp z.1
      have z2 := Int32.le_iff_toInt_le.mp z.2
      have a1 : (1 : Int32).toInt = 1 := by decide
      rw [nI_toInt (by omega)] at z2
      obtain ⟨d, hd, rfl⟩ := nI_of (x := x3) (fun q => by
        have := Int32.lt_iff_toInt_lt.mp q
        have a0 : (0 : Int32).toInt = 0 := by decide
        omega)
      rw [nI_toInt hd] at z1 z2
      exact h2 c r d hc hr e1 e2 (by omega) (by omega) rfl _ _ _ _
    · rw [decide_eq_false z]
      refine br_t rfl (h1 c r hc hr e1 e2 (fun d d1 d2 e => z ?_) _ _ _ _)
      subst e
      exact ⟨nI_le (a := 1) d1 (by omega), nI_le d2 (by omega)⟩
theorem pm_punch {pastMany wid hei : Int32} {zz past stk laid : Nat → Int32} {x1 x2 x3 : Int32} {post : Int32 → Int32 → Int32 → Int32 → (Nat → Int32) → (Nat → Int32) → (Nat → Int32) → (Nat → Int32) → Prop} (k : Nat) (hk : k ≤ 5) (hp : Nat → Pap) (p : Pap) (hz : pM zz p) (hm : pastMany = nI k) (hh : pH past k hp)
    (h0 : (∀ c r : Nat, c < qw p → r < qh p → ¬ (x1 = nI c ∧ x2 = nI r)) → ∀ wid' hei' stk' laid', post (-1) pastMany wid' hei' zz past stk' laid')
    (h1 : ∀ c r : Nat, c < qw p → r < qh p → x1 = nI c → x2 = nI r → (∀ d : Nat, 1 ≤ d → d ≤ 2 ^ qn p → x3 ≠ nI d) → ∀ wid' hei' stk' laid', post (-2) pastMany wid' hei' zz past stk' laid')
    (h2 : ∀ c r d : Nat, c < qw p → r < qh p → x1 = nI c → x2 = nI r → 1 ≤ d → d ≤ 2 ^ qn p → x3 = nI d → ∀ wid' hei' zz' past' stk' laid', pM zz' (qPunch p c r d) → pH past' (hLen k) (hPush k hp p) → post (nI (qNew p c r d)) (nI (hLen k)) wid' hei' zz' past' stk' laid') : wp_X6_punch pastMany wid hei zz past stk laid x1 x2 x3 post := by
  refine pm_whyNotPunch p hz (fun z _ _ _ _ => ?_) (fun c r hc hr e1 e2 z _ _ _ _ => ?_) (fun c r d hc hr e1 e2 d1 d2 e3 _ _ _ _ => ?_)
  · exact ⟨fun q => absurd q (by decide), fun _ => h0 z _ _ _ _⟩
  · exact ⟨fun q => absurd q (by decide), fun _ => h1 c r hc hr e1 e2 z _ _ _ _⟩
  · refine ⟨fun _ => ?_, fun q => absurd (by decide) q⟩
    refine pm_record k hk hp p hz hm hh (fun past' hh' => ?_)
    subst e1 e2 e3
    refine pm_makesHoles p hz c r d hc hr d2 (fun _ _ zz' _ _ hz' => ?_)
    exact h2 c r d hc hr rfl rfl d1 d2 rfl _ _ _ _ _ _ hz' hh'
/-- the uppermost layer without a hole: its number in the stack, or the stack's height -/
def qTop (p : Pap) (c r : Nat) : Nat → Nat → Nat
  | 0, i => i
  | f + 1, i => if qp p (qu p c r i / 2) = true then qTop p c r f (i + 1) else i
theorem qTop_le (p : Pap) (c r : Nat) : ∀ f i, i ≤ qTop p c r f i ∧ qTop p c r f i ≤ i + f
  | 0, i => ⟨Nat.le_refl i, Nat.le_refl i⟩
  | f + 1, i => by
    have := qTop_le p c r f (i + 1)
    unfold qTop
    split <;> omega
abbrev qT (p : Pap) (c r : Nat) : Nat := qTop p c r (2 ^ qn p) 0
theorem pm_firstWhole {wid hei : Int32} {zz stk : Nat → Int32} {post : Int32 → Prop} (p : Pap) (hz : pM zz p) (hl : pL (qf p) (qn p) wid hei stk) (c r : Nat) (hc : c < qw p) (hr : r < qh p)
    (h0 : qT p c r = 2 ^ qn p → post (-6)) (h1 : qT p c r < 2 ^ qn p → post (nI (qu p c r (qT p c r)))) : wp_X6_firstWhole wid hei zz stk (nI ((r * qw p + c) * 2 ^ qn p)) post := by
  have ok := hz.1
  have h6 := fp_ok_6 ok
  have bL := fp_L_b h6
  intro P2 hP2
  have key : ∀ f i, i + f = 2 ^ qn p → qTop p c r f i = qT p c r → P2 (nI i) := by
    intro f
    induction f with
    | zero =>
      intro i hi e
      apply hP2
      refine pm_layers _ _ ok hl.1 hl.2.1 ?_
      refine br_t (nI_le (by omega) (by omega)) (h0 ?_)
      rw [← e]
      show i = 2 ^ qn p
      omega
    | succ f ih =>
      intro i hi e
      apply hP2
      refine pm_layers _ _ ok hl.1 hl.2.1 ?_
      have lt := pm_lt_top ok hc hr (show i < 2 ^ qn p by omega)
      have us := fp_us_lt _ _ c r i ok hc hr (by omega)
      refine br_f (nI_ge (by omega) (by omega)) ?_
      rw [nI_add]
      refine ⟨vp_in_nI lt (by omega), ?_⟩
      rw [nI_clamp (by omega), hl.2.2 c r i hc hr (by omega), show nI (fp_us (qf p) (qn p) c r i) / (2 : Int32) = nI (fp_us (qf p) (qn p) c r i / 2) from pk_div (d := 2) (by omega) (by decide) (by decide), show (7 : Int32) + nI (fp_us (qf p) (qn p) c r i / 2) = nI (7 + fp_us (qf p) (qn p) c r i / 2) from nI_add 7 _]
      refine ⟨vp_in_nI (by omega) (by omega), ?_⟩
      rw [nI_clamp (by omega), hz.2.2.2.1 _ (by omega)]
      refine pu_brN (fun z => ?_) (fun z => ?_)
      · refine ⟨vp_in_nI lt (by omega), ?_⟩
        have e2 : qT p c r = i := by
          rw [← e]
          unfold qTop
          rw [if_neg]
          show ¬ qp p (fp_us (qf p) (qn p) c r i / 2) = true
          rw [z]
          decide
        have := h1 (by omega)
        rw [e2] at this
        exact this
      · rw [pu_i1]
        refine ih (i + 1) (by omega) ?_
        rw [← e]
        show _ = if qp p (qu p c r i / 2) = true then qTop p c r f (i + 1) else i
        rw [if_pos z]
  exact key (2 ^ qn p) 0 (by omega) rfl
