theorem qw_b {p : Pap} (ok : fp_ok (qf p) (qn p)) : 1 ≤ qw p ∧ qw p ≤ 8 := fp_w_b _ _ ok
theorem qh_b {p : Pap} (ok : fp_ok (qf p) (qn p)) : 1 ≤ qh p ∧ qh p ≤ 8 := fp_h_b _ _ ok
theorem qwh {p : Pap} (ok : fp_ok (qf p) (qn p)) : qw p * qh p * 2 ^ qn p = 64 := fp_wh _ _ ok
theorem pm_lay {wid hei : Int32} {zz stk laid : Nat → Int32} {x1 : Int32} {post : Int32 → Int32 → (Nat → Int32) → (Nat → Int32) → Prop} (kf : Nat → Nat) (n : Nat) (ok : fp_ok kf n) (hx : x1 = nI n) (hz : ∀ i, i < n → zz (1 + i) = nI (kf i))
    (h : ∀ wid' hei' stk' laid', pL kf n wid' hei' stk' → post wid' hei' stk' laid') : wp_X6_lay wid hei zz stk laid x1 post := by
  subst hx
  have h6 := fp_ok_6 ok
  intro P14 hP14
  have key : ∀ k j (s : Nat → Int32), j + k = 64 → (∀ q, q < j → s q = nI (2 * q)) → P14 (nI j) s := by
    intro k
    induction k with
    | zero =>
      intro j s hj I
      apply hP14
      have hj' : j = 64 := by omega
      subst hj'
      refine br_t (nI_le (a := 64) (b := 64) (Nat.le_refl _) (by omega)) ?_
      intro P37 hP37
      have key2 : ∀ k2 j2 (wid' hei' : Int32) (stk' laid' : Nat → Int32), j2 + k2 = n → pL kf j2 wid' hei' stk' → P37 (nI j2) wid' hei' stk' laid' := by
        intro k2
        induction k2 with
        | zero =>
          intro j2 wid' hei' stk' laid' hj2 hl
          apply hP37
          have hj2' : j2 = n := by omega
          subst hj2'
          exact br_t (nI_le (Nat.le_refl _) (by omega)) (h _ _ _ _ hl)
        | succ k2 ih2 =>
          intro j2 wid' hei' stk' laid' hj2 hl
          apply hP37
          refine br_f (nI_ge (by omega) (by omega)) ?_
          rw [show (1 : Int32) + nI j2 = nI (1 + j2) from nI_add 1 j2]
          refine ⟨vp_in_nI (by omega) (by omega), ?_⟩
          rw [nI_clamp (by omega), hz j2 (by omega)]
          refine pm_layFold kf j2 (fp_ok_le n (by omega) ok) hl rfl (fun stk'' laid'' hl'' => ?_)
          rw [pu_i1]
          exact ih2 (j2 + 1) _ _ _ _ (by omega) hl''
      have w0 : fp_w kf 0 = 8 := by simp [fp_w, fp_pa]
      have h0' : fp_h kf 0 = 8 := by simp [fp_h, fp_pa]
      refine key2 n 0 _ _ _ _ (by omega) ⟨by rw [w0]; rfl, by rw [h0']; rfl, fun c r i hc hr hi => ?_⟩
      rw [w0] at hc
      rw [h0'] at hr
      have hi1 : i < 1 := hi
      rw [w0]
      show s ((r * 8 + c) * 1 + i) = nI (2 * (8 * r + c))
      rw [I _ (by omega)]
      congr 1
      omega
    | succ k ih =>
      intro j s hj I
      apply hP14
      refine br_f (nI_ge (a := j) (b := 64) (by omega) (by omega)) ⟨vp_in_nI (by omega) (by omega), ?_⟩
      rw [pu_i1, nI_clamp (by omega), show (2 : Int32) * nI j = nI (2 * j) from pk_mul 2 j]
      refine ih (j + 1) _ (by omega) (fun q hq => ?_)
      rw [pu_upd]
      split
      · rename_i z
        rw [z]
      · exact I q (by omega)
  exact key 64 0 stk (by omega) (fun q hq => absurd hq (by omega))
/-- the reference's row of numbers holds a paper -/
def pM (z : Nat → Int32) (p : Pap) : Prop :=
  fp_ok (qf p) (qn p) ∧ z 0 = nI (qn p) ∧ (∀ i, i < qn p → z (1 + i) = nI (qf p i)) ∧ (∀ c, c < 64 → z (7 + c) = bI (qp p c)) ∧ (∀ j, j < 128 → z (71 + j) = qc p j) ∧ (∀ r, r < 8 → ∃ m : Nat, m < 256 ∧ z (199 + r) = nI m ∧ ∀ c, c < 8 → m.testBit c = qg p (8 * r + c))
theorem pm_layNow {wid hei : Int32} {zz stk laid : Nat → Int32} {post : Int32 → Int32 → (Nat → Int32) → (Nat → Int32) → Prop} (p : Pap) (hp : pM zz p)
    (h : ∀ wid' hei' stk' laid', pL (qf p) (qn p) wid' hei' stk' → post wid' hei' stk' laid') : wp_X6_layNow wid hei zz stk laid post := by
  obtain ⟨ok, h0, h1, -⟩ := hp
  exact ⟨vp_in_nI (n := 0) (by omega) (by omega), pm_lay _ _ ok h0 h1 h⟩
/-- the place of a field's uppermost layer, or none -/
theorem pm_top {wid hei : Int32} {zz stk laid : Nat → Int32} {x1 x2 : Int32} {post : Int32 → Int32 → Int32 → (Nat → Int32) → (Nat → Int32) → Prop} (p : Pap) (hp : pM zz p)
    (h0 : (∀ c r : Nat, c < qw p → r < qh p → ¬ (x1 = nI c ∧ x2 = nI r)) → ∀ wid' hei' stk' laid', pL (qf p) (qn p) wid' hei' stk' → post (-6) wid' hei' stk' laid')
    (h1 : ∀ c r : Nat, c < qw p → r < qh p → x1 = nI c → x2 = nI r → ∀ wid' hei' stk' laid', pL (qf p) (qn p) wid' hei' stk' → post (nI ((r * qw p + c) * 2 ^ qn p)) wid' hei' stk' laid') : wp_X6_top wid hei zz stk laid x1 x2 post := by
  have ok := hp.1
  have bw := qw_b ok
  have bh := qh_b ok
  refine pm_layNow p hp (fun wid' hei' stk' laid' hl => ?_)
  have hl0 := hl
  obtain ⟨rfl, rfl, -⟩ := hl
  rw [show nI (qw p) - (1 : Int32) = nI (qw p - 1) from pk_sub (b := 1) bw.1, show nI (qh p) - (1 : Int32) = nI (qh p - 1) from pk_sub (b := 1) bh.1]
  refine pm_in0 (qw p) (by omega) (by omega) rfl (fun z => ?_) (fun c hc e1 => ?_)
  · intro P49 hP49
    exact br_t rfl (hP49 (h0 (fun c r hc hr e => z c hc e.1) _ _ _ _ hl0))
  · intro P49 hP49
    refine br_f (by decide) ?_
    refine pm_in0 (qh p) (by omega) (by omega) rfl (fun z => ?_) (fun r hr e2 => ?_)
    · exact br_t rfl (hP49 (h0 (fun c r hc hr e => z r hr e.2) _ _ _ _ hl0))
    · refine br_f (by decide) ?_
      subst e1 e2
      refine pm_field c r _ ?_
      refine pm_layers _ _ ok rfl rfl ?_
      rw [pk_mul]
      exact h1 c r hc hr rfl rfl _ _ _ _ hl0
theorem pm_lt_top {p : Pap} (ok : fp_ok (qf p) (qn p)) {c r i : Nat} (hc : c < qw p) (hr : r < qh p) (hi : i < 2 ^ qn p) : (r * qw p + c) * 2 ^ qn p + i < 64 := by
  have := pl_lt hc hr hi
  have := qwh ok
  omega
