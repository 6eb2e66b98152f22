/-! the law's pieces, by numbers: punch, ink, mend -/
theorem qPunch_s (p : Pap) (c r d x : Nat) : qp (qPunch p c r (d + 1)) x = (qp (qPunch p c r d) x || decide (qu p c r d / 2 = x)) := by
  show (qp p x || (fp_in (qf p) (qn p) c r d x || decide (fp_us (qf p) (qn p) c r d / 2 = x))) = ((qp p x || fp_in (qf p) (qn p) c r d x) || decide (fp_us (qf p) (qn p) c r d / 2 = x))
  rw [Bool.or_assoc]
section
variable {npat ngoal : Int64} {ncol : Nat → Int32} {nmade nmac : Int32} {nks : Nat → Int32} {hkept : Int32} {hks : Nat → Nat → Int32} {hmade hmac : Nat → Int32} {hcol : Nat → Nat → Int32} {hpat hgoal : Nat → Int64} {vf vh vu vd vt : Nat → Int32} {k8 k10 k11 k12 k13 k14 : Int32}
set_option maxHeartbeats 1000000 in
theorem ps_punch {post : Int32 → Int64 → Int32 → (Nat → Nat → Int32) → (Nat → Int32) → (Nat → Int32) → (Nat → Nat → Int32) → (Nat → Int64) → (Nat → Int64) → (Nat → Int32) → Prop} (p : Pap) (hC : pC npat ngoal ncol nmade nmac nks p) (hH : gH hkept hks hmade hmac hcol hpat hgoal) (hR : lR p vf vh vu vd vt) (x y : Nat) (hx : x < qw p) (hy : y < qh p) (e10 : k10 = nI (qw p)) (e12 : k12 = nI (2 ^ qn p)) (e13 : k13 = nI x) (e14 : k14 = nI y)
    (h : ∀ p' pat' a b c d e g i vh', pC pat' ngoal ncol nmade nmac nks p' → gH a b c d e g i → lR p' vf vh' vu vd vt → post 1 pat' a b c d e g i vh') : wp_sg_punch npat ngoal ncol nmade nmac nks hkept hks hmade hmac hcol hpat hgoal vf vh k8 k10 k12 k13 k14 post := by
  subst e10 e12 e13 e14
  have ok := hC.1
  have bw' : 1 ≤ qw p ∧ qw p ≤ 8 := fp_w_b _ _ ok
  have bh' : 1 ≤ qh p ∧ qh p ≤ 8 := fp_h_b _ _ ok
  have n6 := fp_ok_6 ok
  have bL := fp_L_b n6
  obtain ⟨hf, hh, hu, hd, ht, hk5⟩ := hR
  refine pl_low 3 (by omega) (by omega) rfl (fun q hq => ?_)
  intro P368 h368
  have go : ∀ dd, 1 ≤ dd → dd ≤ 2 ^ qn p → P368 (nI dd) := fun dd d1 d2 => by
    refine h368 _ ?_
    intro P376 h376
    have key : ∀ e i (vh' : Nat → Int32), i + e = dd → (∀ c, c < 64 → vh' c = bI (qp (qPunch p x y i) c)) → P376 (nI (qNew p x y i)) (nI i) vh' := by
      intro e
      induction e with
      | zero =>
        intro i vh' hi hv
        have ei : i = dd := by omega
        subst ei
        refine h376 _ _ _ (br_t (nI_le (Nat.le_refl _) (by omega)) ?_)
        have hxw : ∀ (c r : Nat), c < qw p → r < qh p → nI x = nI c → nI y = nI r → c = x ∧ r = y := fun c r hc hr e1 e2 => ⟨(nI_eq (by omega) (by omega)).mp e1.symm, (nI_eq (by omega) (by omega)).mp e2.symm⟩
        refine cl_punch p hC hH (fun z => absurd ⟨rfl, rfl⟩ (z x y hx hy)) (fun c r hc hr e1 e2 z => absurd rfl (z i d1 d2)) (fun c r d' hc hr e1 e2 d1' d2' e3 pat' hC' a b c' d'' e' g i' hH' => ?_)
        obtain ⟨ec, er⟩ := hxw c r hc hr e1 e2
        have ed : d' = i := (nI_eq (by omega) (by omega)).mp e3.symm
        subst ec er ed
        intro P467 h467 P466 h466
        refine br_e rfl ?_
        rw [pu_i1]
        refine cl_punch (qPunch p c r d') hC' hH' (fun z => absurd ⟨rfl, rfl⟩ (z c r hx hy)) (fun c2 r2 hc2 hr2 f1 f2 z a2 b2 c2' d2'' e2' g2 i2' hH2 => ?_) (fun c2 r2 d2 hc2 hr2 f1 f2 g1 g2 f3 => absurd f3 (fun q => ?_))
        · refine br_e rfl ?_
          refine cl_punch (qPunch p c r d') hC' hH2 (fun z3 a3 b3 c3' d3'' e3' g3 i3' hH3 => ?_) (fun c3 r3 hc3 hr3 f1' f2' z3 => absurd f1' (fun q => ?_)) (fun c3 r3 d3 hc3 hr3 f1' => absurd f1' (fun q => ?_))
          · refine br_e rfl (h467 _ _ _ _ _ _ _ _ _ (h (qPunch p c r d') _ _ _ _ _ _ _ _ _ hC' hH3 ⟨hf, hv, hu, hd, ht, hk5⟩))
          · have hc3' : c3 < qw p := hc3
            have := (nI_eq (by omega) (by omega)).mp q
            omega
          · have hc3' : c3 < qw p := hc3
            have := (nI_eq (by omega) (by omega)).mp q
            omega
        · have g2' : d2 ≤ 2 ^ qn p := g2
          have := (nI_eq (by omega) (by omega)).mp q
          omega
      | succ e ih =>
        intro i vh' hi hv
        have us := fp_us_lt _ _ x y i ok hx hy (by omega)
        have us' : qu p x y i < 128 := us
        have c64 : qu p x y i / 2 < 64 := by omega
        have ic : vp_in (nI (qu p x y i / 2)) 64 := vp_in_nI c64 (by omega)
        refine h376 _ _ _ (br_f (nI_ge (by omega) (by omega)) ?_)
        refine pl_at _ _ ok hf x y i hx hy (by omega) rfl rfl rfl ⟨ic, ?_⟩
        rw [show (nI (fp_us (qf p) (qn p) x y i / 2)).toNatClampNeg = qu p x y i / 2 from nI_clamp (by omega), hv _ c64, pu_i1]
        have ct1 := ct_set (qp (qPunch p x y i)) (qu p x y i / 2) 64 c64
        have ct2 : ct (qp (qPunch p x y (i + 1))) 64 = ct (fun z => qp (qPunch p x y i) z || decide (qu p x y i / 2 = z)) 64 := ct_congr (fun z hz => qPunch_s p x y i z)
        have mono : ct (qp p) 64 ≤ ct (qp (qPunch p x y i)) 64 := ct_mono 64 (fun z _ hz => by show (qp p z || _) = true; rw [hz]; rfl)
        have l64 := ct_le (qp (qPunch p x y i)) 64
        refine nm_r (e' := nI (qNew p x y (i + 1))) ?_ ⟨ic, ih (i + 1) _ (by omega) (fun z hz => ?_)⟩
        · unfold qNew
          rw [ct2, ct1]
          cases qp (qPunch p x y i) (qu p x y i / 2)
          · rw [show (1 : Int32) - bI false = nI 1 from rfl, nI_add, if_neg (by decide)]
            congr 1
            omega
          · rw [show (1 : Int32) - bI true = nI 0 from rfl, nI_add, if_pos rfl]
            congr 1
        · rw [pu_upd, qPunch_s]
          by_cases q2 : z = qu p x y i / 2
          · rw [if_pos q2, q2, decide_eq_true rfl, Bool.or_true]
            rfl
          · rw [if_neg q2, hv z hz, decide_eq_false (fun q3 => q2 q3.symm), Bool.or_false]
    have k0 := key dd 0 vh (by omega) (fun c hc => by
      rw [hh c hc]
      show bI (qp p c) = bI (qp p c || false)
      rw [Bool.or_false])
    have e0 : qNew p x y 0 = 0 := by
      unfold qNew
      rw [ct_congr (p := qp (qPunch p x y 0)) (q := qp p) (fun z _ => by show (qp p z || false) = qp p z; rw [Bool.or_false]), Nat.sub_self]
    rw [e0] at k0
    exact k0
  refine ⟨fun _ => pl_low (2 ^ qn p) (by omega) (by omega) rfl (fun j hj => ?_), fun _ => go _ (by omega) (Nat.le_refl _)⟩
  rw [show (1 : Int32) + nI j = nI (1 + j) from nI_add 1 j]
  exact go _ (by omega) (by omega)
set_option maxHeartbeats 1000000 in
theorem ps_ink {post : Int32 → (Nat → Int32) → Int32 → (Nat → Nat → Int32) → (Nat → Int32) → (Nat → Int32) → (Nat → Nat → Int32) → (Nat → Int64) → (Nat → Int64) → (Nat → Int32) → (Nat → Int32) → Prop} (p : Pap) (hC : pC npat ngoal ncol nmade nmac nks p) (hH : gH hkept hks hmade hmac hcol hpat hgoal) (hR : lR p vf vh vu vd vt) (x y : Nat) (hx : x < qw p) (hy : y < qh p) (e12 : k12 = nI (2 ^ qn p)) (e13 : k13 = nI x) (e14 : k14 = nI y)
    (h : ∀ p' col' a b c d e g i vu' vd', pC npat ngoal col' nmade nmac nks p' → gH a b c d e g i → lR p' vf vh vu' vd' vt → post 1 col' a b c d e g i vu' vd') : wp_sg_ink npat ngoal ncol nmade nmac nks hkept hks hmade hmac hcol hpat hgoal vf vh vu vd k8 k12 k13 k14 post := by
  subst e12 e13 e14
  have ok := hC.1
  have bw' : 1 ≤ qw p ∧ qw p ≤ 8 := fp_w_b _ _ ok
  have bh' : 1 ≤ qh p ∧ qh p ≤ 8 := fp_h_b _ _ ok
  have n6 := fp_ok_6 ok
  have bL := fp_L_b n6
  have hR0 := hR
  obtain ⟨hf, hh, hu, hd, ht, hk5⟩ := hR
  refine pl_low 5 (by omega) (by omega) rfl (fun q hq => ?_)
  refine nm_r (e' := nI (1 + q)) (nI_add 1 q) ?_
  refine pl_firstWhole p ok hf hh x y hx hy rfl rfl ?_
  have tl : qT p x y ≤ 0 + 2 ^ qn p := (qTop_le p x y (2 ^ qn p) 0).2
  intro P525 h525
  by_cases z : qT p x y = 2 ^ qn p
  · refine br_e (by rw [z]) (h525 _ ?_)
    intro P566 h566 P554 h554
    refine br_t (by decide) (h554 (br_t (by decide) (h566 _ _ ?_)))
    refine cl_ink p hC hH x y (1 + q) hx hy (by omega) (by omega) rfl rfl rfl (fun _ a b c d e g i hH' => ?_) (fun z2 => absurd z (by omega))
    intro P586 h586
    exact br_e rfl (h586 _ (h p _ _ _ _ _ _ _ _ _ _ hC hH' hR0))
  · have z' : qT p x y < 2 ^ qn p := by omega
    have us := fp_us_lt _ _ x y (qT p x y) ok hx hy z'
    have us' : qu p x y (qT p x y) < 128 := us
    have pu := fp_pl_us _ _ x y (qT p x y) ok hx hy z'
    refine br_n (fun e => z ((nI_eq (by omega) (by omega)).mp e)) ?_
    refine pl_at _ _ ok hf x y (qT p x y) hx hy z' rfl rfl rfl (h525 _ ?_)
    have hs2 : ∀ s, s < 128 → ∃ k, k ≤ 5 ∧ (if s = qu p x y (qT p x y) then nI (1 + q) else qc p s) = nI k := fun s hs => by
      by_cases q2 : s = qu p x y (qT p x y)
      · rw [if_pos q2]
        exact ⟨1 + q, by omega, rfl⟩
      · rw [if_neg q2]
        exact hk5 s hs
    have hink : ∀ (vu' vd' : Nat → Int32), (∀ c, c < 64 → vu' c = if 2 * c = qu p x y (qT p x y) then nI (1 + q) else qc p (2 * c)) → (∀ c, c < 64 → vd' c = if 2 * c + 1 = qu p x y (qT p x y) then nI (1 + q) else qc p (2 * c + 1)) → wp_X5_ink npat ngoal ncol nmade nmac nks hkept hks hmade hmac hcol hpat hgoal (nI x) (nI y) (nI (1 + q)) (fun r_7 ncol__8 hkept__9 hks__10 hmade__11 hmac__12 hcol__13 hpat__14 hgoal__15 => ∀ (P586 : Int32 → Prop), (∀ (t_16 : Int32), (post t_16 ncol__8 hkept__9 hks__10 hmade__11 hmac__12 hcol__13 hpat__14 hgoal__15 vu' vd') → P586 t_16) → ((¬ r_7 = nI (fp_us (qf p) (qn p) x y (qT p x y) / 2)) → P586 (0 : Int32)) ∧ ((r_7 = nI (fp_us (qf p) (qn p) x y (qT p x y) / 2)) → P586 (1 : Int32))) := by
      intro vu' vd' h1 h2
      refine cl_ink p hC hH x y (1 + q) hx hy (by omega) (by omega) rfl rfl rfl (fun z2 => absurd z2 (by omega)) (fun _ col' hC' a b c d e g i hH' => ?_)
      intro P586 h586
      exact br_e rfl (h586 _ (h (qInk p (qu p x y (qT p x y)) (nI (1 + q))) _ _ _ _ _ _ _ _ _ _ hC' hH' ⟨hf, hh, h1, h2, ht, hs2⟩))
    intro P566 h566 P554 h554
    refine br_f (nI_pos (by omega)) ?_
    refine pl_where _ _ ok hf (fp_us (qf p) (qn p) x y (qT p x y) / 2) (by omega) rfl ?_
    rw [pu]
    dsimp only
    have c64 : fp_us (qf p) (qn p) x y (qT p x y) / 2 < 64 := by omega
    have ic : vp_in (nI (fp_us (qf p) (qn p) x y (qT p x y) / 2)) 64 := vp_in_nI c64 (by omega)
    rw [nI_clamp (n := fp_us (qf p) (qn p) x y (qT p x y) / 2) (by omega)] at h554 ⊢
    have m2 : fp_us (qf p) (qn p) x y (qT p x y) % 2 = 0 ∨ fp_us (qf p) (qn p) x y (qT p x y) % 2 = 1 := by omega
    refine pk_le (x + 8 * y + 64 * qT p x y + 4096 * (fp_us (qf p) (qn p) x y (qT p x y) % 2)) 4095 (fun w => ?_) (fun w => ⟨ic, ?_⟩)
    · refine h554 (br_f (nI_pos (by omega)) ⟨ic, h566 _ _ (hink _ _ (fun c hc => ?_) (fun c hc => ?_))⟩)
      · rw [pu_upd]
        by_cases q3 : c = fp_us (qf p) (qn p) x y (qT p x y) / 2
        · rw [if_pos q3, if_pos (show 2 * c = fp_us (qf p) (qn p) x y (qT p x y) by omega)]
        · rw [if_neg q3, if_neg (show ¬ 2 * c = fp_us (qf p) (qn p) x y (qT p x y) by omega)]
          exact hu c hc
      · rw [if_neg (show ¬ 2 * c + 1 = fp_us (qf p) (qn p) x y (qT p x y) by omega)]
        exact hd c hc
    · refine h566 _ _ (hink _ _ (fun c hc => ?_) (fun c hc => ?_))
      · rw [if_neg (show ¬ 2 * c = fp_us (qf p) (qn p) x y (qT p x y) by omega)]
        exact hu c hc
      · rw [pu_upd]
        by_cases q3 : c = fp_us (qf p) (qn p) x y (qT p x y) / 2
        · rw [if_pos q3, if_pos (show 2 * c + 1 = fp_us (qf p) (qn p) x y (qT p x y) by omega)]
        · rw [if_neg q3, if_neg (show ¬ 2 * c + 1 = fp_us (qf p) (qn p) x y (qT p x y) by omega)]
          exact hd c hc
theorem ps_mend {post : Int32 → Int64 → (Nat → Int32) → Int32 → (Nat → Nat → Int32) → (Nat → Int32) → (Nat → Int32) → (Nat → Nat → Int32) → (Nat → Int64) → (Nat → Int64) → (Nat → Int32) → (Nat → Int32) → (Nat → Int32) → Prop} (p : Pap) (hC : pC npat ngoal ncol nmade nmac nks p) (hH : gH hkept hks hmade hmac hcol hpat hgoal) (hR : lR p vf vh vu vd vt) (x y : Nat) (hx : x < qw p) (hy : y < qh p) (e13 : k13 = nI x) (e14 : k14 = nI y)
    (h : ∀ p' pat' col' a b c d e g i vh' vu' vd', pC pat' ngoal col' nmade nmac nks p' → gH a b c d e g i → lR p' vf vh' vu' vd' vt → post 1 pat' col' a b c d e g i vh' vu' vd') : wp_sg_mend npat ngoal ncol nmade nmac nks hkept hks hmade hmac hcol hpat hgoal vf vh vu vd k13 k14 post := by
  subst e13 e14
  have ok := hC.1
  have n6 := fp_ok_6 ok
  have bL := fp_L_b n6
  obtain ⟨hf, hh, hu, hd, ht, hk5⟩ := hR
  have us := fp_us_lt _ _ x y 0 ok hx hy (by omega)
  refine pl_at _ _ ok hf x y 0 hx hy (by omega) rfl rfl rfl ?_
  have e0 : fp_us (qf p) (qn p) x y 0 / 2 = qu p x y 0 / 2 := rfl
  rw [e0]
  have c64' : qu p x y 0 / 2 < 64 := by rw [← e0]; omega
  rw [nI_clamp (n := qu p x y 0 / 2) (by omega), hh _ c64', hu _ c64', hd _ c64']
  refine cl_mend p hC hH x y hx hy rfl rfl (fun z a b c d e g i hH' => ?_) (fun z pat' col' hC' a b c d e g i hH' => ?_)
  · rw [z]
    generalize hx0 : qu p x y 0 / 2 = x0 at z c64' ⊢
    have ic : vp_in (nI x0) 64 := vp_in_nI c64' (by omega)
    refine ⟨ic, fun P632 h632 => br_n (by decide) (h632 _ ?_)⟩
    intro P640 h640
    refine br_e rfl (h640 _ ⟨ic, ?_⟩)
    intro P663 h663
    refine br_n (by decide) ⟨ic, h663 _ ⟨ic, ic, ?_⟩⟩
    intro P685 h685
    refine br_n (by decide) ⟨ic, h685 _ ⟨ic, ic, h p _ _ _ _ _ _ _ _ _ _ _ _ hC hH' ⟨hf, fun k hk => ?_, fun k hk => ?_, fun k hk => ?_, ht, hk5⟩⟩⟩
    · rw [pu_upd]
      by_cases q : k = x0
      · rw [if_pos q, q, z]; rfl
      · rw [if_neg q]; exact hh k hk
    · rw [pu_upd]
      by_cases q : k = x0
      · rw [if_pos q, q]
      · rw [if_neg q]; exact hu k hk
    · rw [pu_upd]
      by_cases q : k = x0
      · rw [if_pos q, q]
      · rw [if_neg q]; exact hd k hk
  · rw [z]
    generalize hx0 : qu p x y 0 / 2 = x0 at z c64' hC' ⊢
    have ic : vp_in (nI x0) 64 := vp_in_nI c64' (by omega)
    refine ⟨ic, fun P632 h632 => br_e rfl (h632 _ ?_)⟩
    intro P640 h640
    refine br_e rfl (h640 _ ⟨ic, ?_⟩)
    intro P663 h663
    refine br_e rfl (h663 _ ⟨ic, ic, ?_⟩)
    intro P685 h685
    refine br_e rfl (h685 _ ⟨ic, ic, h (qMend p x0) _ _ _ _ _ _ _ _ _ _ _ _ hC' hH' ⟨hf, fun k hk => ?_, fun k hk => ?_, fun k hk => ?_, ht, fun s hs => ?_⟩⟩)
    · rw [pu_upd]
      show _ = bI (qp p k && !decide (k = x0))
      by_cases q : k = x0
      · rw [if_pos q, decide_eq_true q, Bool.not_true, Bool.and_false]; rfl
      · rw [if_neg q, decide_eq_false q, Bool.not_false, Bool.and_true]; exact hh k hk
    · rw [pu_upd]
      show _ = if 2 * k / 2 = x0 then 0 else qc p (2 * k)
      by_cases q : k = x0
      · rw [if_pos q, if_pos (by omega)]
      · rw [if_neg q, if_neg (by omega)]; exact hu k hk
    · rw [pu_upd]
      show _ = if (2 * k + 1) / 2 = x0 then 0 else qc p (2 * k + 1)
      by_cases q : k = x0
      · rw [if_pos q, if_pos (by omega)]
      · rw [if_neg q, if_neg (by omega)]; exact hd k hk
    · show ∃ k, k ≤ 5 ∧ (if s / 2 = x0 then 0 else qc p s) = nI k
      by_cases q : s / 2 = x0
      · rw [if_pos q]
        exact ⟨0, by omega, rfl⟩
      · rw [if_neg q]
        exact hk5 s hs
end
