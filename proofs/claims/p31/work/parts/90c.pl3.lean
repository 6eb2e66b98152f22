/-! the cell at a field and a layer; the first whole layer -/
theorem wh_t64 {kf : Nat → Nat} {n : Nat} (ok : fp_ok kf n) {c r i y : Nat} (hc : c < fp_w kf n) (hr : r < fp_h kf n) (hi : i < 2 ^ n) (hy : y < 64) : ((fp_pl kf n y).1 + 8 * (fp_pl kf n y).2.1 + 64 * (fp_pl kf n y).2.2.1 = c + 8 * r + 64 * i) ↔ y = fp_us kf n c r i / 2 := by
  have hb := fp_pl_b kf n y ok hy
  have wb := fp_w_b kf _ ok
  have hhb := fp_h_b kf _ ok
  have lb := fp_L_b (fp_ok_6 ok)
  have e := fp_us_pl kf n y ok hy
  have e2 := fp_pl_us kf n c r i ok hc hr hi
  obtain ⟨q, hq⟩ : ∃ q, fp_pl kf n y = q := ⟨_, rfl⟩
  obtain ⟨c', r', i', u'⟩ := q
  rw [hq] at hb e ⊢
  obtain ⟨b1, b2, b3, b4⟩ := hb
  dsimp only at b1 b2 b3 b4 e ⊢
  constructor
  · intro z
    have z1 : c' = c := by omega
    have z2 : r' = r := by omega
    have z3 : i' = i := by omega
    subst z1 z2 z3
    omega
  · intro z
    subst z
    rw [hq] at e2
    have f1 := congrArg (fun q => q.1) e2
    have f2 := congrArg (fun q => q.2.1) e2
    have f3 := congrArg (fun q => q.2.2.1) e2
    dsimp only at f1 f2 f3
    omega
theorem pl_at {vf : Nat → Int32} {x1 x2 x3 : Int32} {post : Int32 → Prop} (kf : Nat → Nat) (n : Nat) (ok : fp_ok kf n) (hf : fR vf kf n) (c r i : Nat) (hc : c < fp_w kf n) (hr : r < fp_h kf n) (hi : i < 2 ^ n) (h1 : x1 = nI c) (h2 : x2 = nI r) (h3 : x3 = nI i)
    (h : post (nI (fp_us kf n c r i / 2))) : wp_L_at vf x1 x2 x3 post := by
  subst h1 h2 h3
  have wb := fp_w_b kf _ ok
  have hhb := fp_h_b kf _ ok
  have lb := fp_L_b (fp_ok_6 ok)
  have us := fp_us_lt kf n c r i ok hc hr hi
  have tp := fun y hy => wh_t64 ok hc hr hi (y := y) hy
  have ht : fp_us kf n c r i / 2 < 64 := by omega
  generalize fp_us kf n c r i / 2 = t at h tp ht
  intro P hP
  have key : ∀ d j, j + d = 64 → P (if t < j then nI t else (-1 : Int32)) (nI j) := by
    intro d
    induction d with
    | zero =>
      intro j hj
      have ej : j = 64 := by omega
      subst ej
      refine hP _ _ (br_t (nI_le (a := 64) (b := 64) (Nat.le_refl _) (by decide)) ?_)
      rw [if_pos ht]
      exact h
    | succ d ih =>
      intro j hj
      have hj64 : j < 64 := by omega
      refine hP _ _ (br_f (nI_ge (a := j) (b := 64) (by omega) (by omega)) ?_)
      refine pl_where kf n ok hf j hj64 rfl ?_
      have hb := fp_pl_b kf n j ok hj64
      have tj := tp j hj64
      have nx := ih (j + 1) (by omega)
      obtain ⟨q, hq⟩ : ∃ q, fp_pl kf n j = q := ⟨_, rfl⟩
      obtain ⟨c', r', i', u'⟩ := q
      rw [hq] at hb tj ⊢
      obtain ⟨b1, b2, b3, b4⟩ := hb
      dsimp only at b1 b2 b3 b4 tj ⊢
      obtain ⟨-, v2, -, -, -, -, v7⟩ := wh_v (c := c') (r := r') (i := i') (u := u') (by omega) (by omega) (by omega) b4
      rw [show nI (c' + 8 * r' + 64 * i' + 4096 * u') - nI (c' + 8 * r' + 64 * i' + 4096 * u') / (4096 : Int32) * (4096 : Int32) = nI ((c' + 8 * r' + 64 * i' + 4096 * u') % 4096) from pk_rem (d := 4096) (by omega) (by decide) (by decide), v2]
      rw [show (8 : Int32) * nI r = nI (8 * r) from pk_mul 8 r, show (64 : Int32) * nI i = nI (64 * i) from pk_mul 64 i, nI_add, nI_add, pu_i1]
      intro Q hQ
      refine pm_sel1 (k := c' + 8 * r' + 64 * i') (j := c + 8 * r + 64 * i) (by omega) (by omega) (hQ _ ?_)
      by_cases z : c' + 8 * r' + 64 * i' = c + 8 * r + 64 * i
      · rw [if_pos z]
        have e := tj.mp z
        rw [if_pos (by omega), ← e] at nx
        exact nx
      · rw [if_neg z]
        have e : j ≠ t := fun q => z (tj.mpr q)
        by_cases z2 : t < j
        · rw [if_pos z2]
          rw [if_pos (by omega)] at nx
          exact nx
        · rw [if_neg z2]
          rw [if_neg (by omega)] at nx
          exact nx
  have k0 := key 64 0 (by omega)
  rw [if_neg (by omega)] at k0
  exact k0
theorem bI_1 {b : Bool} : bI b = 1 ↔ b = true := by cases b <;> simp [bI]
theorem pl_firstWhole {vf vh : Nat → Int32} {x2 x3 : Int32} {post : Int32 → Prop} (p : Pap) (ok : fp_ok (qf p) (qn p)) (hf : fR vf (qf p) (qn p)) (hh : ∀ c, c < 64 → vh c = bI (qp p c)) (c r : Nat) (hc : c < qw p) (hr : r < qh p) (h2 : x2 = nI c) (h3 : x3 = nI r)
    (h : post (nI (qT p c r))) : wp_L_firstWhole vf vh x2 x3 post := by
  subst h2 h3
  have bL := fp_L_b (fp_ok_6 ok)
  intro P hP
  have key : ∀ f i, i + f = 2 ^ qn p → qTop p c r f i = qT p c r → P (nI i) := by
    intro f
    induction f with
    | zero =>
      intro i hi e
      refine hP _ (pl_layers _ _ ok hf ?_)
      intro Q hQ
      refine br_t (nI_le (by omega) (by omega)) (hQ ?_)
      rw [← e] at h
      exact h
    | succ f ih =>
      intro i hi e
      refine hP _ (pl_layers _ _ ok hf ?_)
      intro Q hQ
      refine br_f (nI_ge (by omega) (by omega)) ?_
      have us := fp_us_lt _ _ c r i ok hc hr (by omega)
      refine pl_at _ _ ok hf c r i hc hr (by omega) rfl rfl rfl ?_
      refine ⟨vp_in_nI (by omega) (by omega), ?_⟩
      rw [nI_clamp (by omega), hh _ (by omega)]
      have e3 : qTop p c r (f + 1) i = if qp p (qu p c r i / 2) = true then qTop p c r f (i + 1) else i := rfl
      rw [e3] at e
      by_cases z : qp p (qu p c r i / 2) = true
      · refine br_e (bI_1.mpr z) ?_
        rw [if_pos z] at e
        rw [pu_i1]
        exact ih (i + 1) (by omega) e
      · refine br_n (fun q => z (bI_1.mp q)) (hQ ?_)
        rw [if_neg z] at e
        rw [← e] at h
        exact h
  exact key (2 ^ qn p) 0 (by omega) rfl
