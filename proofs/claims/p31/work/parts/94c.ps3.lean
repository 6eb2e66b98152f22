/-! the law's pieces, by numbers: target, looks -/
theorem row_or : ∀ c, c < 8 → ∀ m, m < 2 ^ c → (nI m ||| ((1 : Int32) <<< (nI c &&& (31 : Int32)))) = nI (m + 2 ^ c) ∧ (nI m ||| ((0 : Int32) <<< (nI c &&& (31 : Int32)))) = nI m := by decide +kernel
section
variable {npat ngoal : Int64} {ncol : Nat → Int32} {nmade nmac : Int32} {nks : Nat → Int32} {hkept : Int32} {hks : Nat → Nat → Int32} {hmade hmac : Nat → Int32} {hcol : Nat → Nat → Int32} {hpat hgoal : Nat → Int64} {vf vh vu vd vt : Nat → Int32} {k7 k8 k10 k11 k12 k13 k14 k15 k17 k18 k20 k22 k23 : Int32}
theorem ps_aimHere {post : Int32 → Int64 → Int32 → (Nat → Nat → Int32) → (Nat → Int32) → (Nat → Int32) → (Nat → Nat → Int32) → (Nat → Int64) → (Nat → Int64) → (Nat → Int32) → Prop} (p : Pap) (hC : pC npat ngoal ncol nmade nmac nks p) (hH : gH hkept hks hmade hmac hcol hpat hgoal) (hR : lR p vf vh vu vd vt)
    (h : ∀ p' goal' a b c d e g i vt', pC npat goal' ncol nmade nmac nks p' → gH a b c d e g i → lR p' vf vh vu vd vt' → post 1 goal' a b c d e g i vt') : wp_sg_aimHere npat ngoal ncol nmade nmac nks hkept hks hmade hmac hcol hpat hgoal vh vt post := by
  obtain ⟨hf, hh, hu, hd, ht, hk5⟩ := hR
  intro P719 h719
  have key : ∀ d k (vt' : Nat → Int32), k + d = 64 → (∀ r, r < k / 8 → vt' r = nI (rowN (fun c => qp p (8 * r + c)) 8)) → (k % 8 ≠ 0 → vt' (k / 8) = nI (rowN (fun c => qp p (8 * (k / 8) + c)) (k % 8))) → P719 (nI (ct (qp p) k)) (nI k) vt' := by
    intro d
    induction d with
    | zero =>
      intro k vt' hk h1 h2
      have ek : k = 64 := by omega
      subst ek
      refine h719 _ _ _ (br_t (nI_le (a := 64) (b := 64) (Nat.le_refl _) (by decide)) ?_)
      refine cl_aimHere p hC hH (fun hC' a b c d e g i hH' => ?_)
      intro P794 h794
      exact br_e rfl (h794 _ (h (qHere p) _ _ _ _ _ _ _ _ _ hC' hH' ⟨hf, hh, hu, hd, fun r hr => h1 r (by omega), hk5⟩))
    | succ d ih =>
      intro k vt' hk h1 h2
      have k64 : k < 64 := by omega
      have ik : vp_in (nI k) 64 := vp_in_nI k64 (by omega)
      have i8 : vp_in (nI (k / 8)) 8 := vp_in_nI (by omega) (by omega)
      have r8 : nI k - nI k / (8 : Int32) * (8 : Int32) = nI (k % 8) := pk_rem (d := 8) (by omega) (by decide) (by decide)
      have d8 : nI k / (8 : Int32) = nI (k / 8) := pk_div (d := 8) (by omega) (by decide) (by decide)
      refine h719 _ _ _ (br_f (nI_ge (a := k) (b := 64) (by omega) (by omega)) ?_)
      rw [r8, d8, nI_clamp (n := k) (by omega), nI_clamp (n := k / 8) (by omega), hh k k64]
      intro P753 h753
      have rl := rowN_lt (fun c => qp p (8 * (k / 8) + c)) (k % 8)
      have go : P753 (nI (rowN (fun c => qp p (8 * (k / 8) + c)) (k % 8))) := by
        refine h753 _ ⟨ik, i8, ik, ?_⟩
        refine nm_r (e' := nI (ct (qp p) (k + 1))) (by rw [pu_bIn, nI_add]; rfl) ?_
        rw [pu_i1]
        have ro := row_or (k % 8) (by omega) _ rl
        have e8 : 8 * (k / 8) + k % 8 = k := by omega
        have er : nI (rowN (fun c => qp p (8 * (k / 8) + c)) (k % 8)) ||| (bI (qp p k) <<< (nI (k % 8) &&& (31 : Int32))) = nI (rowN (fun c => qp p (8 * (k / 8) + c)) (k % 8 + 1)) := by
          have e9 : rowN (fun c => qp p (8 * (k / 8) + c)) (k % 8 + 1) = rowN (fun c => qp p (8 * (k / 8) + c)) (k % 8) + if qp p (8 * (k / 8) + k % 8) = true then 2 ^ (k % 8) else 0 := rfl
          rw [e9, e8]
          cases qp p k
          · rw [if_neg (by decide)]
            exact ro.2
          · rw [if_pos rfl]
            exact ro.1
        rw [er]
        refine ih (k + 1) _ (by omega) (fun r hr => ?_) (fun hne => ?_)
        · rw [pu_upd]
          by_cases q : r = k / 8
          · have q7 : k % 8 = 7 := by omega
            rw [if_pos q, q, q7]
          · rw [if_neg q]
            exact h1 r (by omega)
        · have q1 : (k + 1) / 8 = k / 8 := by omega
          have q2 : (k + 1) % 8 = k % 8 + 1 := by omega
          rw [q1, q2, pu_upd_s]
      by_cases z : k % 8 = 0
      · refine br_e (by rw [z]; rfl) ?_
        rw [z] at go
        exact go
      · refine br_n (fun e => z ((nI_eq (b := 0) (by omega) (by omega)).mp e)) ⟨i8, ?_⟩
        rw [h2 z]
        exact go
  exact key 64 0 vt (by omega) (fun r hr => absurd hr (by omega)) (fun z => absurd rfl z)
theorem ps_aim {post : Int32 → Int64 → Int32 → (Nat → Nat → Int32) → (Nat → Int32) → (Nat → Int32) → (Nat → Nat → Int32) → (Nat → Int64) → (Nat → Int64) → (Nat → Int32) → Prop} (p : Pap) (hC : pC npat ngoal ncol nmade nmac nks p) (hH : gH hkept hks hmade hmac hcol hpat hgoal) (hR : lR p vf vh vu vd vt)
    (h : ∀ p' goal' a b c d e g i vt', pC npat goal' ncol nmade nmac nks p' → gH a b c d e g i → lR p' vf vh vu vd vt' → post 1 goal' a b c d e g i vt') : wp_sg_aim npat ngoal ncol nmade nmac nks hkept hks hmade hmac hcol hpat hgoal vt k8 post := by
  obtain ⟨hf, hh, hu, hd, ht, hk5⟩ := hR
  refine pl_low 8 (by omega) (by omega) rfl (fun r hr => ?_)
  have ir : vp_in (nI r) 8 := vp_in_nI hr (by omega)
  refine pl_low 2 (by omega) (by omega) rfl (fun j2 _ => ?_)
  intro P835 h835
  have go : ∀ n, 0 < n → n < 2 ^ 31 → P835 (nI n) := fun n n0 n1 => by
    refine h835 _ ?_
    refine pl_low n n0 n1 rfl (fun j4 _ => ?_)
    refine pl_low 2 (by omega) (by omega) rfl (fun j5 _ => ?_)
    intro P856 h856
    have go2 : ∀ t, P856 t := fun t => by
      refine h856 _ ?_
      obtain ⟨m, hm, em⟩ := pk_andE (nI j4 * t) (m := 255) 8 (by decide)
      refine nm_r em ?_
      refine cl_aim p hC hH r m hr hm rfl rfl (fun goal' hC' a b c d e g i hH' => ⟨ir, ?_⟩)
      rw [nI_clamp (n := r) (by omega)]
      intro P884 h884
      refine br_e (ht r hr).symm (h884 _ ⟨ir, h (qAim p r m) _ _ _ _ _ _ _ _ _ hC' hH' ⟨hf, hh, hu, hd, fun r' hr' => ?_, hk5⟩⟩)
      rw [pu_upd]
      by_cases q : r' = r
      · rw [if_pos q, q]
        congr 1
        exact rowN_of hm (fun c hc => by
          show m.testBit c = if (8 * r + c) / 8 = r then m.testBit ((8 * r + c) % 8) else qg p (8 * r + c)
          rw [if_pos (by omega), show (8 * r + c) % 8 = c by omega])
      · rw [if_neg q, ht r' hr']
        congr 1
        refine rowN_of (rowN_lt _ 8) (fun c hc => ?_)
        rw [rowN_bit _ 8 c hc]
        show qg p (8 * r' + c) = if (8 * r' + c) / 8 = r then m.testBit ((8 * r' + c) % 8) else qg p (8 * r' + c)
        rw [if_neg (by omega)]
    exact ⟨fun _ => go2 _, fun _ => go2 _⟩
  exact ⟨fun _ => go 4 (by omega) (by omega), fun _ => go 256 (by omega) (by omega)⟩
theorem ps_paper {post : Prop} (p : Pap) (hC : pC npat ngoal ncol nmade nmac nks p) (hR : lR p vf vh vu vd vt) (e15 : k15 = 1) (h : post) : wp_sg_paper npat ngoal ncol nmade nmac nks vf vh vu vd vt k15 post := by
  subst e15
  exact ⟨fun q => absurd q (by decide), fun _ => pl_paper p hC hR ⟨fun _ => h, fun q => absurd q (by decide)⟩⟩
theorem ps_look {post : Int32 → Int32 → Int32 → (Nat → Int32) → Prop} (p : Pap) (ok : fp_ok (qf p) (qn p)) (hR : lR p vf vh vu vd vt) (h7 : 0 ≤ (40 : Int32) + k7)
    (h : ∀ (x y : Nat) (s : Int32) (vp : Nat → Int32), x < qw p → y < qh p → (∀ c, c < 64 → vp c = bI (!qFr p x y c)) → ((qT p x y = 2 ^ qn p ∧ s = -6) ∨ (qT p x y < 2 ^ qn p ∧ s = nI (10 * (qu p x y (qT p x y) / 2)) + qc p (qu p x y (qT p x y)))) → post (nI x) (nI y) s vp) : wp_sg_look vf vh vu vd k7 post := by
  have bw' : 1 ≤ qw p ∧ qw p ≤ 8 := fp_w_b _ _ ok
  have bh' : 1 ≤ qh p ∧ qh p ≤ 8 := fp_h_b _ _ ok
  have n6 := fp_ok_6 ok
  have bL := fp_L_b n6
  obtain ⟨hf, hh, hu, hd, ht, hk5⟩ := hR
  refine ⟨h7, fun g => ⟨in_6, ?_⟩⟩
  rw [cl_6, hf.1]
  refine pl_wide (qf p) (qn p) (qn p) (Nat.le_refl _) ok hf rfl ?_
  refine pl_low (qw p) (by omega) (by omega) rfl (fun x hx => ⟨in_6, ?_⟩)
  refine pl_high (qf p) (qn p) (qn p) (Nat.le_refl _) ok hf rfl ?_
  refine pl_low (qh p) (by omega) (by omega) rfl (fun y hy => ?_)
  refine pl_firstWhole p ok hf hh x y hx hy rfl rfl ?_
  have tl : qT p x y ≤ 0 + 2 ^ qn p := (qTop_le p x y (2 ^ qn p) 0).2
  intro P982 h982
  have key : ∀ d k (vp : Nat → Int32), k + d = 64 → (∀ c, c < k → vp c = bI (!qFr p x y c)) → P982 (nI k) vp := by
    intro d
    induction d with
    | zero =>
      intro k vp hk hv
      have ek : k = 64 := by omega
      subst ek
      have hp := fun s => h x y s vp hx hy hv
      refine h982 _ _ (br_t (nI_le (a := 64) (b := 64) (Nat.le_refl _) (by decide)) ?_)
      refine pl_layers _ _ ok hf ?_
      refine pk_le (2 ^ qn p) (qT p x y) (fun z => hp _ (Or.inl ⟨by omega, rfl⟩)) (fun z => ?_)
      have us := fp_us_lt _ _ x y (qT p x y) ok hx hy z
      have us' : qu p x y (qT p x y) < 128 := us
      have pu := fp_pl_us _ _ x y (qT p x y) ok hx hy z
      refine pl_at _ _ ok hf x y (qT p x y) hx hy z rfl rfl rfl ?_
      refine pl_where _ _ ok hf (fp_us (qf p) (qn p) x y (qT p x y) / 2) (by omega) rfl ?_
      rw [pu]
      dsimp only
      have c64 : fp_us (qf p) (qn p) x y (qT p x y) / 2 < 64 := by omega
      have ic : vp_in (nI (fp_us (qf p) (qn p) x y (qT p x y) / 2)) 64 := vp_in_nI c64 (by omega)
      rw [nI_clamp (n := fp_us (qf p) (qn p) x y (qT p x y) / 2) (by omega), hu _ c64, hd _ c64]
      intro P1084 h1084
      have fin : ∀ v, v = qc p (qu p x y (qT p x y)) → P1084 v := fun v e => by
        subst e
        refine h1084 _ (nm_r (e' := nI (10 * (qu p x y (qT p x y) / 2)) + qc p (qu p x y (qT p x y))) ?_ ?_)
        · rw [show (10 : Int32) * nI (fp_us (qf p) (qn p) x y (qT p x y) / 2) = nI (10 * (fp_us (qf p) (qn p) x y (qT p x y) / 2)) from pk_mul 10 _]
        · exact hp _ (Or.inr ⟨z, rfl⟩)
      refine pk_le (x + 8 * y + 64 * qT p x y + 4096 * (fp_us (qf p) (qn p) x y (qT p x y) % 2)) 4095 (fun w => ⟨ic, fin _ ?_⟩) (fun w => ⟨ic, fin _ ?_⟩)
      · congr 1
        show 2 * (fp_us (qf p) (qn p) x y (qT p x y) / 2) = fp_us (qf p) (qn p) x y (qT p x y)
        omega
      · congr 1
        show 2 * (fp_us (qf p) (qn p) x y (qT p x y) / 2) + 1 = fp_us (qf p) (qn p) x y (qT p x y)
        omega
    | succ d ih =>
      intro k vp hk hv
      have k64 : k < 64 := by omega
      have ik : vp_in (nI k) 64 := vp_in_nI k64 (by omega)
      refine h982 _ _ (br_f (nI_ge (a := k) (b := 64) (by omega) (by omega)) ⟨ik, ?_⟩)
      rw [nI_clamp (n := k) (by omega), hh k k64]
      intro P1026 h1026
      have hb := fp_pl_b (qf p) (qn p) k ok k64
      have iff : (fp_pl (qf p) (qn p) k).1 + 8 * (fp_pl (qf p) (qn p) k).2.1 = x + 8 * y ↔ fp_in (qf p) (qn p) x y (2 ^ qn p) k = true := by
        rw [fp_in_iff]
        constructor
        · intro e
          have w8 : fp_w (qf p) (qn p) ≤ 8 := (fp_w_b _ _ ok).2
          have x8 : x < fp_w (qf p) (qn p) := hx
          have a1 : (fp_pl (qf p) (qn p) k).1 = x := by omega
          have a2 : (fp_pl (qf p) (qn p) k).2.1 = y := by omega
          refine ⟨_, hb.2.2.1, ?_⟩
          have := fp_us_pl (qf p) (qn p) k ok k64
          rw [a1, a2] at this
          rw [this]
          omega
        · rintro ⟨i, hi, e⟩
          have := fp_pl_us (qf p) (qn p) x y i ok hx hy hi
          rw [e] at this
          rw [this]
      have go : P1026 (bI (!qFr p x y k)) := by
        refine h1026 _ ⟨ik, ?_⟩
        rw [pu_i1]
        refine ih (k + 1) _ (by omega) (fun c hc => ?_)
        rw [pu_upd]
        by_cases q : c = k
        · rw [if_pos q, q]
        · rw [if_neg q]
          exact hv c (by omega)
      have fr : (!qFr p x y k) = (qp p k || fp_in (qf p) (qn p) x y (2 ^ qn p) k) := Bool.not_not _
      rw [fr] at go
      intro P1021 h1021
      cases z : qp p k
      · refine br_f (by decide) ?_
        rw [z, Bool.false_or] at go
        refine pl_where _ _ ok hf k k64 rfl ?_
        have w8 : fp_w (qf p) (qn p) ≤ 8 := (fp_w_b _ _ ok).2
        have h8 : fp_h (qf p) (qn p) ≤ 8 := (fp_h_b _ _ ok).2
        have v := wh_v (c := (fp_pl (qf p) (qn p) k).1) (r := (fp_pl (qf p) (qn p) k).2.1) (i := (fp_pl (qf p) (qn p) k).2.2.1) (u := (fp_pl (qf p) (qn p) k).2.2.2) (by omega) (by omega) (by omega) hb.2.2.2
        generalize (fp_pl (qf p) (qn p) k).1 + 8 * (fp_pl (qf p) (qn p) k).2.1 + 64 * (fp_pl (qf p) (qn p) k).2.2.1 + 4096 * (fp_pl (qf p) (qn p) k).2.2.2 = V at v ⊢
        rw [show nI V - nI V / (64 : Int32) * (64 : Int32) = nI (V % 64) from pk_rem (d := 64) (by omega) (by decide) (by decide), v.2.2.2.1, show (8 : Int32) * nI y = nI (8 * y) from pk_mul 8 y, nI_add]
        by_cases z2 : (fp_pl (qf p) (qn p) k).1 + 8 * (fp_pl (qf p) (qn p) k).2.1 = x + 8 * y
        · refine br_e (by rw [z2]) (h1021 ?_)
          rw [iff.mp z2] at go
          exact go
        · refine br_n (fun e => z2 ((nI_eq (by omega) (by omega)).mp e)) ?_
          rw [Bool.eq_false_iff.mpr (fun e => z2 (iff.mpr e))] at go
          exact go
      · refine br_t rfl (h1021 ?_)
        rw [z, Bool.true_or] at go
        exact go
  exact key 64 0 _ (by omega) (fun c hc => absurd hc (by omega))
theorem ps_same {post : Int32 → Int32 → Int32 → Int32 → Int32 → Prop} (p : Pap) (ok : fp_ok (qf p) (qn p)) (hR : lR p vf vh vu vd vt)
    (h : post k17 k18 k20 (syTo (qp p) 64) (pV (qf p) (qn p) (qg p))) : wp_sg_same vf vh vt k17 k18 k20 post := by
  obtain ⟨hf, hh, hu, hd, ht, hk5⟩ := hR
  refine pl_isSame (qp p) hh 0 (by omega) rfl ?_
  intro P1100 h1100
  refine pu_sel (h1100 _ ?_)
  refine pl_isSame (qp p) hh 1 (by omega) rfl ?_
  intro P1113 h1113
  refine pu_sel (h1113 _ ?_)
  refine pl_isSame (qp p) hh 2 (by omega) rfl ?_
  intro P1127 h1127
  refine pu_sel (h1127 _ ?_)
  refine pl_isSame (qp p) hh 3 (by omega) rfl ?_
  intro P1142 h1142
  refine pu_sel (h1142 _ ?_)
  refine nm_r (e' := syTo (qp p) 64) ?_ ?_
  · rw [sy4_sum, ← sy_aK (qp p) 64 (Nat.le_refl _)]
  · exact pl_punches _ _ ok hf (qg p) ht h
theorem ps_seen {vp : Nat → Int32} {post : Prop} (p : Pap) (hC : pC npat ngoal ncol nmade nmac nks p) (x y : Nat) (hx : x < qw p) (hy : y < qh p) (e17 : k17 = nI x) (e18 : k18 = nI y) (hvp : ∀ c, c < 64 → vp c = bI (!qFr p x y c)) (hs : (qT p x y = 2 ^ qn p ∧ k20 = -6) ∨ (qT p x y < 2 ^ qn p ∧ k20 = nI (10 * (qu p x y (qT p x y) / 2)) + qc p (qu p x y (qT p x y)))) (e22 : k22 = syTo (qp p) 64) (e23 : k23 = pV (qf p) (qn p) (qg p)) (h : post) : wp_sg_seen npat ngoal ncol nmade nmac nks vp k17 k18 k20 k22 k23 post := by
  subst e17 e18 e22 e23
  have ok := hC.1
  have next : wp_X5_ifPunched npat nmade nmac nks (nI x) (nI y) (fun r_2 => wp_L_pieces vp (fun r_3 => ((¬ r_2 = (r_3 - r_3 / (100 : Int32) * (100 : Int32))) → False) ∧ ((r_2 = (r_3 - r_3 / (100 : Int32) * (100 : Int32))) → wp_X5_symmetries npat (fun r_4 => ((¬ r_4 = syTo (qp p) 64) → False) ∧ ((r_4 = syTo (qp p) 64) → wp_X5_punches ngoal nmade nmac nks (fun r_5 => ∀ (P1210 : Int32 → Prop), (∀ (t_6 : Int32), (((r_5 = t_6) → post) ∧ ((¬ r_5 = t_6) → False)) → P1210 t_6) → ((0 ≤ pV (qf p) (qn p) (qg p)) → P1210 (pV (qf p) (qn p) (qg p))) ∧ ((¬ 0 ≤ pV (qf p) (qn p) (qg p)) → P1210 (-6 : Int32)))))))) := by
    obtain ⟨lab, hL⟩ := lab_ex (qFr p x y)
    refine cl_ifPunched p hC x y hx hy rfl rfl lab hL ?_
    refine pl_pieces (qFr p x y) lab hL hvp ?_
    have l1 := ct_le (isR (qFr p x y) lab) 64
    have l2 := mxP_le (qFr p x y) lab 64
    rw [show nI (ct (isR (qFr p x y) lab) 64 + 100 * mxP (qFr p x y) lab 64) - nI (ct (isR (qFr p x y) lab) 64 + 100 * mxP (qFr p x y) lab 64) / (100 : Int32) * (100 : Int32) = nI ((ct (isR (qFr p x y) lab) 64 + 100 * mxP (qFr p x y) lab 64) % 100) from pk_rem (d := 100) (by omega) (by decide) (by decide), show (ct (isR (qFr p x y) lab) 64 + 100 * mxP (qFr p x y) lab 64) % 100 = ct (isR (qFr p x y) lab) 64 by omega]
    refine br_e rfl ?_
    refine pu_symmetries ?_
    rw [syTo_congr (f := ib npat) (g := qp p) (fun k hk => hC.2.2.2.2.1 k hk) 64 (Nat.le_refl _)]
    refine br_e rfl ?_
    refine pu_punchesFor _ _ ok hC.2.1 hC.2.2.1 hC.2.2.2.1 (qg p) hC.2.2.2.2.2.2 ?_
    intro P1210 h1210
    rcases pW_rng (kf := qf p) (n := qn p) (g := qg p) with z | ⟨k, hk, z⟩
    · have e : pV (qf p) (qn p) (qg p) = -1 := by unfold pV; rw [if_pos z]
      rw [e]
      exact br_f (by decide) (h1210 _ (br_t z h))
    · have e : pV (qf p) (qn p) (qg p) = pW (qf p) (qn p) (qg p) := by
        unfold pV
        rw [if_neg (by rw [z]; exact pm_ne6 (by omega))]
      rw [e]
      refine br_t ?_ (h1210 _ (br_t rfl h))
      rw [z]
      exact nI_pos' (by omega)
  rcases hs with ⟨z, e⟩ | ⟨z, e⟩
  · subst e
    exact cl_seen p hC x y hx hy rfl rfl (fun _ => br_e rfl next) (fun q => absurd q (by omega))
  · subst e
    exact cl_seen p hC x y hx hy rfl rfl (fun q => absurd q (by omega)) (fun _ => br_e rfl next)
end
