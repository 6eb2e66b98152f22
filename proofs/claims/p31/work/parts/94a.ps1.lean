/-! the law's pieces, by numbers: head, choice, folds -/
theorem ps_head {vf : Nat → Int32} {k7 : Int32} {post : Int32 → Int32 → Int32 → Int32 → Int32 → Int32 → Int32 → Int32 → Prop} (p : Pap) (ok : fp_ok (qf p) (qn p)) (hf : fR vf (qf p) (qn p)) (h7 : 0 ≤ k7)
    (h : ∀ (k8 : Int32) (kd x y : Nat), kd < 17 → x < qw p → y < qh p → post k8 (nI kd) (nI (qw p)) (nI (qh p)) (nI (2 ^ qn p)) (nI x) (nI y) 1) : wp_sg_head vf k7 post := by
  have bw := fp_w_b _ _ ok
  have bh := fp_h_b _ _ ok
  have bw' : 1 ≤ qw p ∧ qw p ≤ 8 := bw
  have bh' : 1 ≤ qh p ∧ qh p ≤ 8 := bh
  refine ⟨h7, fun c => ?_⟩
  refine pl_low 17 (by omega) (by omega) rfl (fun kd hkd => ⟨in_6, ?_⟩)
  rw [cl_6, hf.1]
  refine pl_wide (qf p) (qn p) (qn p) (Nat.le_refl _) ok hf rfl ⟨in_6, ?_⟩
  refine pl_high (qf p) (qn p) (qn p) (Nat.le_refl _) ok hf rfl ?_
  refine pl_layers _ _ ok hf ?_
  refine pl_low (qw p) (by omega) (by omega) rfl (fun x hx => ?_)
  refine pl_low (qh p) (by omega) (by omega) rfl (fun y hy => ?_)
  exact h c kd x y hkd hx hy
theorem ps_disp {k8 k9 k10 k11 k12 k13 k14 k15 : Int32} {p121 p217 p306 p339 p479 p598 p713 p799 : Int32 → Int32 → Int32 → Int32 → Int32 → Int32 → Int32 → Int32 → Prop} (h121 : p121 k8 k9 k10 k11 k12 k13 k14 k15) (h217 : p217 k8 k9 k10 k11 k12 k13 k14 k15) (h306 : p306 k8 k9 k10 k11 k12 k13 k14 k15) (h339 : p339 k8 k9 k10 k11 k12 k13 k14 k15) (h479 : p479 k8 k9 k10 k11 k12 k13 k14 k15) (h598 : p598 k8 k9 k10 k11 k12 k13 k14 k15) (h713 : p713 k8 k9 k10 k11 k12 k13 k14 k15) (h799 : p799 k8 k9 k10 k11 k12 k13 k14 k15) :
    wp_sg_disp k8 k9 k10 k11 k12 k13 k14 k15 p121 p217 p306 p339 p479 p598 p713 p799 := by
  refine ⟨fun _ => ⟨fun _ P hP => ?_, fun _ => h217⟩, fun _ => h121⟩
  have X : P := hP ⟨fun _ => ⟨fun _ => ⟨fun _ => ⟨fun _ => h799, fun _ => pl_low 2 (by omega) (by omega) rfl (fun j _ => ⟨fun _ => h799, fun _ => h713⟩)⟩, fun _ => h598⟩, fun _ => h479⟩, fun _ => h339⟩
  exact ⟨fun _ => X, fun _ => pl_low 2 (by omega) (by omega) rfl (fun j _ => ⟨fun _ => X, fun _ => h306⟩)⟩
section
variable {npat ngoal : Int64} {ncol : Nat → Int32} {nmade nmac : Int32} {nks : Nat → Int32} {hkept : Int32} {hks : Nat → Nat → Int32} {hmade hmac : Nat → Int32} {hcol : Nat → Nat → Int32} {hpat hgoal : Nat → Int64} {vf vh vu vd vt : Nat → Int32} {k8 k10 k11 k12 k13 k14 : Int32}
theorem ps_fold {post : Int32 → Int32 → Int32 → (Nat → Int32) → Int32 → (Nat → Nat → Int32) → (Nat → Int32) → (Nat → Int32) → (Nat → Nat → Int32) → (Nat → Int64) → (Nat → Int64) → (Nat → Int32) → Prop} (p : Pap) (hC : pC npat ngoal ncol nmade nmac nks p) (hH : gH hkept hks hmade hmac hcol hpat hgoal) (hR : lR p vf vh vu vd vt) (e10 : k10 = nI (qw p)) (e11 : k11 = nI (qh p)) (e12 : k12 = nI (2 ^ qn p))
    (h : ∀ p' m' c' s' a b c d e g i vf', pC npat ngoal ncol m' c' s' p' → gH a b c d e g i → lR p' vf' vh vu vd vt → post 1 m' c' s' a b c d e g i vf') : wp_sg_fold npat ngoal ncol nmade nmac nks hkept hks hmade hmac hcol hpat hgoal vf k8 k10 k11 k12 post := by
  subst e10 e11 e12
  have ok := hC.1
  have bw' : 1 ≤ qw p ∧ qw p ≤ 8 := fp_w_b _ _ ok
  have bh' : 1 ≤ qh p ∧ qh p ≤ 8 := fp_h_b _ _ ok
  have n6 := fp_ok_6 ok
  obtain ⟨hf, hR2⟩ := hR
  refine pl_low 4 (by omega) (by omega) rfl (fun f hf4 => ?_)
  rw [cl_6, hf.1, nI_clamp (n := qn p) (by omega)]
  intro P145 h145
  have go : P145 (nI (if f < 2 then qw p else qh p)) := by
    refine h145 _ ?_
    intro P154 h154
    generalize he : (if f < 2 then qw p else qh p) = ext
    have hb : 1 ≤ ext ∧ ext ≤ 8 := by
      rw [← he]
      split
      · exact bw'
      · exact bh'
    have cn : qCan p f ↔ 1 < ext := by
      unfold qCan
      rw [he]
    have go2 : P154 (bI (decide (1 < ext))) := by
      refine h154 _ ?_
      by_cases z : 1 < ext
      · rw [decide_eq_true z]
        intro P177 h177
        have yes := cn.mpr z
        have okf := qFold_ok ok hf4 yes
        have h66 : qn p + 1 ≤ 6 := fp_ok_6 okf
        refine br_f (by decide) ⟨in_6, vp_in_nI (by omega) (by omega), in_6, in_6, h177 _ ?_⟩
        refine cl_fold p hC hH f hf4 rfl (fun q => absurd yes q) (fun _ m' c' s' hC' a b c d e g i hH' => ?_)
        intro P197 h197
        refine br_f (by decide) (h197 _ ?_)
        intro P205 h205
        refine br_e ?_ (h205 _ (h (qFold p f) _ _ _ _ _ _ _ _ _ _ _ hC' hH' ⟨⟨?_, fun j hj => ?_⟩, hR2⟩))
        · rw [show (2 : Int32) * nI (2 ^ qn p) = nI (2 * 2 ^ qn p) from pk_mul 2 _, Nat.pow_succ, Nat.mul_comm]
        · rw [pu_upd_s, pu_upd_n _ _ (show 6 ≠ qn p by omega), hf.1, pu_i1]
          rfl
        · have hj' : j < qn p + 1 := hj
          rw [pu_upd_n _ _ (show j ≠ 6 by omega), pu_upd]
          show _ = nI (if j = qn p then f else qf p j)
          by_cases q : j = qn p
          · rw [if_pos q, if_pos q]
          · rw [if_neg q, if_neg q]
            exact hf.2 j (by omega)
      · rw [decide_eq_false z]
        intro P177 h177
        have no : ¬ qCan p f := fun q => z (cn.mp q)
        refine br_t rfl (h177 _ ?_)
        refine cl_fold p hC hH f hf4 rfl (fun _ a b c d e g i hH' => ?_) (fun q => absurd q no)
        intro P197 h197
        refine br_t rfl (h197 _ ?_)
        intro P205 h205
        exact br_e rfl (h205 _ (h p _ _ _ _ _ _ _ _ _ _ _ hC hH' ⟨hf, hR2⟩))
    refine pk_le ext 1 (fun z => ?_) (fun z => ?_)
    · rw [decide_eq_false (by omega)] at go2; exact go2
    · rw [decide_eq_true z] at go2; exact go2
  refine pk_le 2 f (fun z => ?_) (fun z => ?_)
  · rw [if_neg (by omega)] at go; exact go
  · rw [if_pos z] at go; exact go
theorem ps_unfold {post : Int32 → Int32 → Int32 → Int32 → (Nat → Nat → Int32) → (Nat → Int32) → (Nat → Int32) → (Nat → Nat → Int32) → (Nat → Int64) → (Nat → Int64) → (Nat → Int32) → Prop} (p : Pap) (hC : pC npat ngoal ncol nmade nmac nks p) (hH : gH hkept hks hmade hmac hcol hpat hgoal) (hR : lR p vf vh vu vd vt)
    (h : ∀ p' m' c' a b c d e g i vf', pC npat ngoal ncol m' c' nks p' → gH a b c d e g i → lR p' vf' vh vu vd vt → post 1 m' c' a b c d e g i vf') : wp_sg_unfold npat ngoal ncol nmade nmac nks hkept hks hmade hmac hcol hpat hgoal vf post := by
  have ok := hC.1
  have n6 := fp_ok_6 ok
  obtain ⟨hf, hR2⟩ := hR
  refine ⟨in_6, ?_⟩
  rw [cl_6, hf.1]
  intro P229 h229
  refine pk_le (qn p) 0 (fun z => h229 _ ?_) (fun z => h229 _ ?_)
  · intro P249 h249
    refine br_t rfl (h249 _ ⟨in_6, ?_⟩)
    intro P266 h266
    refine br_t rfl (h266 _ ⟨in_6, ?_⟩)
    refine cl_unfold p hC hH (fun _ a b c d e g i hH' => ?_) (fun q => absurd q (by omega))
    intro P282 h282
    refine br_e rfl (h282 _ (h p _ _ _ _ _ _ _ _ _ _ hC hH' ⟨⟨?_, fun j hj => ?_⟩, hR2⟩))
    · rw [pu_upd_s]
      exact pk_sub (b := 0) (by omega)
    · rw [pu_upd_n _ _ (show j ≠ 6 by omega)]
      exact hf.2 j hj
  · have e1 : nI (qn p) - (1 : Int32) = nI (qn p - 1) := pk_sub (b := 1) z
    intro P249 h249
    rw [e1, nI_clamp (n := qn p - 1) (by omega), hf.2 (qn p - 1) (by omega)]
    refine br_f (by decide) ⟨in_6, vp_in_nI (by omega) (by omega), h249 _ ⟨in_6, ?_⟩⟩
    intro P266 h266
    refine br_f (by decide) (h266 _ ⟨in_6, ?_⟩)
    refine cl_unfold p hC hH (fun q => absurd q (by omega)) (fun _ m' c' hC' a b c d e g i hH' => ?_)
    intro P282 h282
    refine br_e rfl (h282 _ (h (qBack p) _ _ _ _ _ _ _ _ _ _ hC' hH' ⟨⟨?_, fun j hj => ?_⟩, hR2⟩))
    · rw [pu_upd_s]
      exact e1
    · have hj' : j < qn p - 1 := hj
      rw [pu_upd_n _ _ (show j ≠ 6 by omega)]
      exact hf.2 j (by omega)
theorem ps_open {post : Int32 → Int32 → Int32 → Int32 → (Nat → Nat → Int32) → (Nat → Int32) → (Nat → Int32) → (Nat → Nat → Int32) → (Nat → Int64) → (Nat → Int64) → (Nat → Int32) → Prop} (p : Pap) (hC : pC npat ngoal ncol nmade nmac nks p) (hH : gH hkept hks hmade hmac hcol hpat hgoal) (hR : lR p vf vh vu vd vt)
    (h : ∀ p' m' c' a b c d e g i vf', pC npat ngoal ncol m' c' nks p' → gH a b c d e g i → lR p' vf' vh vu vd vt → post 1 m' c' a b c d e g i vf') : wp_sg_open npat ngoal ncol nmade nmac nks hkept hks hmade hmac hcol hpat hgoal vf post := by
  obtain ⟨hf, hR2⟩ := hR
  refine cl_open p hC hH (fun m' c' hC' a b c d e g i hH' => ⟨in_6, ?_⟩)
  rw [cl_6, hf.1]
  intro P322 h322
  refine br_e rfl (h322 _ ⟨in_6, h (qOpen p) _ _ _ _ _ _ _ _ _ _ hC' hH' ⟨⟨?_, fun j hj => absurd hj (by show ¬ j < 0; omega)⟩, hR2⟩⟩)
  rw [pu_upd_s]
  rfl
end
