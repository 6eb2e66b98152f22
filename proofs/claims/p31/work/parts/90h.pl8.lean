/-! the law's punches -/
theorem wK_b {kf : Nat → Nat} {n : Nat} (ok : fp_ok kf n) (g : Nat → Bool) (k : Nat) : wK kf n g 64 k ≤ 2 ^ n := by
  refine Nat.le_trans ?_ (wK_le ok k)
  exact ct_mono' (fun x _ e => by
    rw [Bool.and_eq_true] at e
    exact e.2)
/-- the rows of the target -/
def tR (vt : Nat → Int32) (g : Nat → Bool) : Prop := ∀ r, r < 8 → vt r = nI (rowN (fun c => g (8 * r + c)) 8)
theorem tR_bit {vt : Nat → Int32} {g : Nat → Bool} (h : tR vt g) {y : Nat} (hy : y < 64) : ((vt (y / 8) >>> (nI (y % 8) &&& (31 : Int32))) &&& (1 : Int32)) = bI (g y) := by
  rw [h (y / 8) (by omega), pm_bit _ (rowN_lt _ 8) (y % 8) (by omega), rowN_bit _ 8 (y % 8) (by omega), show 8 * (y / 8) + y % 8 = y by omega]
set_option maxHeartbeats 800000 in
theorem pl_punches {vf vt : Nat → Int32} {post : Int32 → Prop} (kf : Nat → Nat) (n : Nat) (ok : fp_ok kf n) (hf : fR vf kf n) (g : Nat → Bool) (hvt : tR vt g) (h : post (pV kf n g)) : wp_L_punches vf vt post := by
  have bL := fp_L_b (fp_ok_6 ok)
  have bw := fp_w_b kf n ok
  have bh := fp_h_b kf n ok
  refine ⟨in_6, ?_⟩
  rw [cl_6]
  refine pl_wide kf n n (Nat.le_refl _) ok hf hf.1 ?_
  refine pl_layers kf n ok hf ?_
  intro P hP
  have key : ∀ d j (vw : Nat → Int32), j + d = 64 → (∀ k, k < 64 → vw k = nI (wK kf n g j k)) → P (nI j) vw := by
    intro d
    induction d with
    | zero =>
      intro j vw hj hvw
      have ej : j = 64 := by omega
      subst ej
      refine hP _ _ (br_t (nI_le (a := 64) (b := 64) (Nat.le_refl _) (by decide)) ?_)
      intro Q hQ
      have key2 : ∀ d k, k + d = 64 → (∀ q, q < k → wK kf n g 64 q = 0 ∨ wK kf n g 64 q = 2 ^ n) → Q (nI (ct (fun k => decide (0 < wK kf n g 64 k)) k)) (nI k) := by
        intro d
        induction d with
        | zero =>
          intro k hk hq
          have ek : k = 64 := by omega
          subst ek
          refine hQ _ _ (br_t (nI_le (a := 64) (b := 64) (Nat.le_refl _) (by decide)) ?_)
          refine br_f (nI_nle (by omega) (by omega)) ?_
          rw [← pV_good ok hq]
          exact h
        | succ d ih2 =>
          intro k hk hq
          have k64 : k < 64 := by omega
          have ik : vp_in (nI k) 64 := vp_in_nI k64 (by omega)
          have wb := wK_b ok g k
          refine hQ _ _ (br_f (nI_ge (a := k) (b := 64) (by omega) (by omega)) ⟨ik, ?_⟩)
          rw [nI_clamp (n := k) (by omega), hvw k k64]
          intro R hR
          have go : wK kf n g 64 k = 0 ∨ wK kf n g 64 k = 2 ^ n → R := fun z => hR ⟨ik, fun P113 h113 => by
            have nx := ih2 (k + 1) (by omega) (fun q h' => by
              by_cases y : q = k
              · subst y; exact z
              · exact hq q (by omega))
            have e4 : ct (fun k => decide (0 < wK kf n g 64 k)) (k + 1) = ct (fun k => decide (0 < wK kf n g 64 k)) k + if decide (0 < wK kf n g 64 k) = true then 1 else 0 := rfl
            rw [e4] at nx
            refine pk_le (wK kf n g 64 k) 0 (fun q => h113 _ (fun w e => ?_)) (fun q => h113 _ (fun w e => ?_))
            · subst e
              rw [if_neg (by rw [decide_eq_true_eq]; omega)] at nx
              exact pm_p0 nx
            · subst e
              rw [if_pos (decide_eq_true q)] at nx
              exact pm_p1 nx⟩
          refine pk_le (wK kf n g 64 k) 0 (fun q => go (Or.inl (by omega))) (fun q => ⟨ik, pk_le (2 ^ n) (wK kf n g 64 k) (fun q2 => go (Or.inr (by omega))) (fun q2 => ?_)⟩)
          rw [← pV_bad ok q q2]
          exact h
      exact key2 64 0 (by omega) (fun q h' => absurd h' (by omega))
    | succ d ih =>
      intro j vw hj hvw
      have j64 : j < 64 := by omega
      refine hP _ _ (br_f (nI_ge (a := j) (b := 64) (by omega) (by omega)) ?_)
      refine pl_where kf n ok hf j j64 rfl ?_
      have hb := fp_pl_b kf n j ok j64
      have pl := pos_lt ok j64
      have v := wh_v (c := (fp_pl kf n j).1) (r := (fp_pl kf n j).2.1) (i := (fp_pl kf n j).2.2.1) (u := (fp_pl kf n j).2.2.2) (by omega) (by omega) (by omega) hb.2.2.2
      have ev : nI ((fp_pl kf n j).1 + 8 * (fp_pl kf n j).2.1 + 64 * (fp_pl kf n j).2.2.1 + 4096 * (fp_pl kf n j).2.2.2) - nI ((fp_pl kf n j).1 + 8 * (fp_pl kf n j).2.1 + 64 * (fp_pl kf n j).2.2.1 + 4096 * (fp_pl kf n j).2.2.2) / (64 : Int32) * (64 : Int32) = nI (pos kf n j) := by
        rw [show nI ((fp_pl kf n j).1 + 8 * (fp_pl kf n j).2.1 + 64 * (fp_pl kf n j).2.2.1 + 4096 * (fp_pl kf n j).2.2.2) - nI ((fp_pl kf n j).1 + 8 * (fp_pl kf n j).2.1 + 64 * (fp_pl kf n j).2.2.1 + 4096 * (fp_pl kf n j).2.2.2) / (64 : Int32) * (64 : Int32) = nI (((fp_pl kf n j).1 + 8 * (fp_pl kf n j).2.1 + 64 * (fp_pl kf n j).2.2.1 + 4096 * (fp_pl kf n j).2.2.2) % 64) from pk_rem (d := 64) (by omega) (by decide) (by decide), v.2.2.2.1]
        rfl
      have r8 : nI j - nI j / (8 : Int32) * (8 : Int32) = nI (j % 8) := pk_rem (d := 8) (by omega) (by decide) (by decide)
      have d8 : nI j / (8 : Int32) = nI (j / 8) := pk_div (d := 8) (by omega) (by decide) (by decide)
      rw [ev, r8, d8, nI_clamp (n := pos kf n j) (by omega), nI_clamp (n := j / 8) (by omega), tR_bit hvt j64, hvw _ pl, pu_bIn, nI_add, pu_i1]
      refine ⟨vp_in_nI pl (by omega), vp_in_nI (by omega) (by omega), vp_in_nI pl (by omega), ih (j + 1) _ (by omega) (fun k hk => ?_)⟩
      rw [pu_upd]
      have e5 : wK kf n g (j + 1) k = wK kf n g j k + if (g j && decide (pos kf n j = k)) = true then 1 else 0 := rfl
      rw [e5]
      by_cases z : k = pos kf n j
      · subst z
        rw [if_pos rfl, decide_eq_true (rfl : pos kf n j = pos kf n j), Bool.and_true]
      · rw [if_neg z, hvw k hk, decide_eq_false (fun q => z q.symm), Bool.and_false, if_neg (by decide)]
        rfl
  exact key 64 0 (fun _ => 0) (by omega) (fun k hk => rfl)
