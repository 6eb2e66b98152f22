/-! the law's pieces: number and largest -/
theorem pc_q {c r : Nat} (hc : c < 2 ^ 31) (hr : r < 2 ^ 31) (h : nI c < 0 ∨ (8 : Int32) ≤ nI c ∨ nI r < 0 ∨ (8 : Int32) ≤ nI r) : 8 ≤ c ∨ 8 ≤ r := by
  rcases h with h | h | h | h
  · exact absurd h (nI_pos hc)
  · exact Or.inl ((nI_leI (a := 8) (by decide) hc).mp h)
  · exact absurd h (nI_pos hr)
  · exact Or.inr ((nI_leI (a := 8) (by decide) hr).mp h)
theorem pc_p {c : Nat} (hc : c < 2 ^ 31) (h : ¬ (8 : Int32) ≤ nI c) : c < 8 := Nat.lt_of_not_le (fun q => h ((nI_leI (a := 8) (by decide) hc).mpr q))
theorem pc_ix {c r z : Nat} (h : 8 * r + c = z) : (8 : Int32) * nI r + nI c = nI z := by
  rw [show (8 : Int32) * nI r = nI (8 * r) from pk_mul 8 r, nI_add, h]
theorem pc_4 {f : Nat → Bool} {lab : Nat → Nat} {t a y b : Nat} {seen next : Nat → Int32} {mem : Nat → Bool} (hJ : pcJ f lab t a y 4 b seen next mem) : pcI f lab t (a + 1) b seen next mem := by
  obtain ⟨⟨g1, g2, g3, g4, g5, g6, g7, g8⟩, h2, h3, h4, h5, h6⟩ := hJ
  refine ⟨g1, by omega, g3, g4, g5, g6, g7, fun k hk z z' hz hz' e1 e2 e3 => ?_⟩
  by_cases q : k = a
  · subst q
    have e : z = y := (nI_eq (by omega) (by omega)).mp (e1.symm.trans h3)
    subst e
    obtain ⟨i, hi, hn⟩ := adj_nbr e2
    exact h6 i hi z' hz' hn e3
  · exact g8 k (by omega) z z' hz hz' e1 e2 e3
theorem pc_0 {f : Nat → Bool} {lab : Nat → Nat} {c : Nat} {seen next : Nat → Int32} (hc : c < 64) (fc : f c = true) (lc : lab c = c) (hs : ∀ x, x < 64 → seen x = bI (f x && decide (lab x < c))) : pcI f lab c 0 1 (upd seen c 1) (upd next 0 (nI c)) (fun x => (fun _ => false) x || decide (c = x)) := by
  have e := ct_set (fun _ => false) c 64 hc
  rw [if_neg (by decide), ct_none (fun _ _ => rfl)] at e
  refine ⟨e.symm, by omega, fun x hx => ?_, fun x hx q => ?_, fun k hk => ?_, fun x hx q => ?_, by simp, fun k hk => absurd hk (by omega)⟩
  · rw [pu_upd]
    show (if x = c then (1 : Int32) else seen x) = bI ((f x && decide (lab x < c)) || (false || decide (c = x)))
    by_cases q : x = c
    · subst q
      rw [if_pos rfl, decide_eq_true (rfl : x = x), Bool.or_true, Bool.or_true]
      rfl
    · rw [if_neg q, hs x hx, decide_eq_false (show ¬ c = x from fun q2 => q q2.symm), Bool.or_false, Bool.or_false]
  · have q' : c = x := by simpa using q
    subst q'
    exact ⟨fc, lc⟩
  · have : k = 0 := by omega
    subst this
    exact ⟨c, hc, pu_upd_s _ _ _, by simp⟩
  · have q' : c = x := by simpa using q
    subst q'
    exact ⟨0, by omega, pu_upd_s _ _ _⟩
set_option maxHeartbeats 1600000 in
theorem pl_pieces {vh : Nat → Int32} {post : Int32 → Prop} (f : Nat → Bool) (lab : Nat → Nat) (hL : Lb f lab) (hvh : ∀ x, x < 64 → vh x = bI (!f x)) (h : post (nI (ct (isR f lab) 64 + 100 * mxP f lab 64))) : wp_L_pieces vh post := by
  intro P18 hP18
  have key : ∀ d c (seen next : Nat → Int32), c + d = 64 → (∀ x, x < 64 → seen x = bI (f x && decide (lab x < c))) → P18 (nI (ct (isR f lab) c)) (nI (mxP f lab c)) (nI c) seen next := by
    intro d
    induction d with
    | zero =>
      intro c seen next hc hs
      have e : c = 64 := by omega
      subst e
      refine hP18 _ _ _ _ _ (br_t (nI_le (a := 64) (b := 64) (Nat.le_refl _) (by decide)) ?_)
      rw [show (100 : Int32) * nI (mxP f lab 64) = nI (100 * mxP f lab 64) from pk_mul 100 _, nI_add]
      exact h
    | succ d ih =>
      intro c seen next hc hs
      have hc64 : c < 64 := by omega
      have ic : vp_in (nI c) 64 := vp_in_nI hc64 (by omega)
      refine hP18 _ _ _ _ _ (br_f (nI_ge (a := c) (b := 64) (by omega) (by omega)) ⟨ic, ?_⟩)
      rw [nI_clamp (n := c) (by omega), hvh c hc64]
      intro P253 h253
      rw [pu_i1] at h253
      have skip : isR f lab c = false → P253 (nI (ct (isR f lab) c)) (nI (mxP f lab c)) seen next := fun q => by
        have nx := ih (c + 1) seen next (by omega) (fun x hx => by
          rw [hs x hx]
          cases fx : f x
          · rfl
          · have e : lab x ≠ c := fun e => by
              obtain ⟨a, b, e3⟩ := Lb_lab hL hx fx
              rw [e] at a b e3
              unfold isR at q
              rw [b, e3, decide_eq_true rfl] at q
              exact absurd q (by decide)
            rw [show decide (lab x < c) = decide (lab x < c + 1) from decide_eq_decide.mpr (by omega)])
        have e1 : ct (isR f lab) (c + 1) = ct (isR f lab) c := by
          show ct (isR f lab) c + (if isR f lab c = true then 1 else 0) = _
          rw [if_neg (by rw [q]; decide)]
          rfl
        have e2 : mxP f lab (c + 1) = mxP f lab c := by
          show (if isR f lab c = true then _ else mxP f lab c) = _
          rw [if_neg (by rw [q]; decide)]
        rw [e1, e2] at nx
        exact h253 _ _ _ _ nx
      cases fc : f c
      · exact br_n (by decide) (skip (by unfold isR; rw [fc]; rfl))
      · refine br_e rfl ⟨ic, ?_⟩
        rw [hs c hc64, fc, Bool.true_and]
        have lc := (hL.1 c hc64 fc).1
        by_cases z : lab c < c
        · rw [decide_eq_true z]
          exact br_n (by decide) (skip (by unfold isR; rw [fc, decide_eq_false (by omega)]; rfl))
        · rw [decide_eq_false z]
          have lt : lab c = c := by omega
          have rc : isR f lab c = true := by unfold isR; rw [fc, lt, decide_eq_true rfl]; rfl
          refine br_e rfl ⟨vp_in_nI (n := 0) (by omega) (by omega), ic, ?_⟩
          rw [pm_cl0]
          intro P55 h55
          have fin : ∀ a b (s n : Nat → Int32) (m : Nat → Bool), pcI f lab c a b s n m → b ≤ a → ∀ (P251 : Int32 → Prop), (∀ t, P253 (nI (ct (isR f lab) c) + (1 : Int32)) t s n → P251 t) → ((nI b ≤ nI (mxP f lab c)) → P251 (nI (mxP f lab c))) ∧ ((¬ nI b ≤ nI (mxP f lab c)) → P251 (nI b)) := by
            intro a b s n m hI hab P251 h251
            have me := fun x hx => pc_end hL hc64 hI hab (x := x) hx
            have eb : b = szP f lab c := by
              rw [hI.1]
              exact ct_congr (fun x hx => me x hx)
            have b64 := szP_le f lab c
            have m64 := mxP_le f lab c
            have nx := ih (c + 1) s n (by omega) (fun x hx => by
              rw [hI.2.2.1 x hx, me x hx]
              cases f x
              · rfl
              · rw [Bool.true_and, Bool.true_and, Bool.true_and]
                congr 1
                by_cases q : lab x = c
                · rw [decide_eq_true q, Bool.or_true, decide_eq_true (by omega)]
                · rw [decide_eq_false q, Bool.or_false]
                  exact decide_eq_decide.mpr (by omega))
            have e1 : ct (isR f lab) (c + 1) = ct (isR f lab) c + 1 := by
              show ct (isR f lab) c + (if isR f lab c = true then 1 else 0) = _
              rw [if_pos rc]
            have e2 : mxP f lab (c + 1) = max (mxP f lab c) b := by
              show (if isR f lab c = true then max (mxP f lab c) (szP f lab c) else mxP f lab c) = _
              rw [if_pos rc, eb]
            rw [e1, e2] at nx
            rw [pu_i1] at h251
            refine pk_le b (mxP f lab c) (fun q => h251 _ (h253 _ _ _ _ ?_)) (fun q => h251 _ (h253 _ _ _ _ ?_))
            · rw [Nat.max_eq_left q] at nx
              exact nx
            · rw [Nat.max_eq_right (by omega)] at nx
              exact nx
          have key55 : ∀ e a b (s n : Nat → Int32) (m : Nat → Bool), a + e = 64 → pcI f lab c a b s n m → P55 (nI a) (nI b) s n := by
            intro e
            induction e with
            | zero =>
              intro a b s n m hae hI
              have bl : b ≤ 64 := by rw [hI.1]; exact ct_le _ _
              exact h55 _ _ _ _ (pk_le b a (fun q => fin a b s n m hI q) (fun q => absurd q (by omega)))
            | succ e ih55 =>
              intro a b s n m hae hI
              have bl : b ≤ 64 := by rw [hI.1]; exact ct_le _ _
              refine h55 _ _ _ _ (pk_le b a (fun q => fin a b s n m hI q) (fun q => ?_))
              obtain ⟨y, hy, ey, my⟩ := hI.2.2.2.2.1 a q
              refine ⟨vp_in_nI (by omega) (by omega), ?_⟩
              rw [nI_clamp (n := a) (by omega)]
              refine nm_r ey ?_
              intro P74 h74
              have r8 : nI y - nI y / (8 : Int32) * (8 : Int32) = nI (y % 8) := pk_rem (d := 8) (by omega) (by decide) (by decide)
              have d8 : nI y / (8 : Int32) = nI (y / 8) := pk_div (d := 8) (by omega) (by decide) (by decide)
              rw [r8, d8] at h74
              have key74 : ∀ g j b (s n : Nat → Int32) (m : Nat → Bool), j + g = 4 → pcJ f lab c a y j b s n m → P74 (nI b) (nI j) s n := by
                intro g
                induction g with
                | zero =>
                  intro j b s n m hj hJ
                  have e4 : j = 4 := by omega
                  subst e4
                  refine h74 _ _ _ _ (br_t (nI_le (a := 4) (b := 4) (Nat.le_refl _) (by decide)) ?_)
                  rw [pu_i1]
                  exact ih55 (a + 1) b s n m (by omega) (pc_4 hJ)
                | succ g ihg =>
                  intro j b s n m hj hJ
                  have nx := fun b' s' n' m' (q : pcJ f lab c a y (j + 1) b' s' n' m') => ihg (j + 1) b' s' n' m' (by omega) q
                  refine h74 _ _ _ _ (br_f (nI_ge (a := j) (b := 4) (by omega) (by omega)) ?_)
                  intro P105 h105
                  have j0 : j = 0 ∨ j = 1 ∨ j = 2 ∨ j = 3 := by omega
                  rcases j0 with rfl | rfl | rfl | rfl
                  · refine br_e rfl (h105 _ ?_)
                    refine nm_r (e' := nI (y % 8 + 1)) (nI_add _ 1) ?_
                    intro P134 h134
                    refine br_n (by decide) (br_n (by decide) (h134 _ ?_))
                    refine nm_r (e' := nI (y / 8)) (nI_add (y / 8) 0) ?_
                    intro P166 h166
                    refine pc_th (fun q => h166 _ (fun P225 h225 => pc_go0 (vh := vh) hJ (fun z hz hn => ?_) nx P225 h225)) (fun q1 q2 q3 q4 => h166 _ (fun P225 h225 => pc_go1 hL (z := y + 1) hvh hJ ?_ ?_ ?_ nx P225 h225))
                    · have := pc_q (by omega) (by omega) q
                      unfold nbr at hn
                      omega
                    · have := pc_p (by omega) q2
                      omega
                    · have := pc_p (by omega) q2
                      unfold nbr
                      omega
                    · exact pc_ix (by omega)
                  · refine br_n (by decide) (br_e rfl (h105 _ ?_))
                    by_cases z0 : y % 8 = 0
                    · refine nm_r (e' := (-1 : Int32)) (by rw [z0]; rfl) ?_
                      intro P134 h134
                      refine br_n (by decide) (br_n (by decide) (h134 _ ?_))
                      refine nm_r (e' := nI (y / 8)) (nI_add (y / 8) 0) ?_
                      intro P166 h166
                      refine pc_th (fun q => h166 _ (fun P225 h225 => pc_go0 (vh := vh) hJ (fun z hz hn => ?_) nx P225 h225)) (fun q1 q2 q3 q4 => absurd (by decide) q1)
                      unfold nbr at hn
                      omega
                    · obtain ⟨k, hk⟩ : ∃ k, y % 8 = k + 1 := ⟨y % 8 - 1, by omega⟩
                      refine nm_r (e' := nI k) (by rw [hk]; exact pk_m1 k) ?_
                      intro P134 h134
                      refine br_n (by decide) (br_n (by decide) (h134 _ ?_))
                      refine nm_r (e' := nI (y / 8)) (nI_add (y / 8) 0) ?_
                      intro P166 h166
                      refine pc_th (fun q => h166 _ (fun P225 h225 => pc_go0 (vh := vh) hJ (fun z hz hn => ?_) nx P225 h225)) (fun q1 q2 q3 q4 => h166 _ (fun P225 h225 => pc_go1 hL (z := y - 1) hvh hJ ?_ ?_ ?_ nx P225 h225))
                      · have := pc_q (by omega) (by omega) q
                        omega
                      · omega
                      · unfold nbr
                        omega
                      · exact pc_ix (by omega)
                  · refine br_n (by decide) (br_n (by decide) (h105 _ ?_))
                    refine nm_r (e' := nI (y % 8)) (nI_add (y % 8) 0) ?_
                    intro P134 h134
                    refine br_e rfl (h134 _ ?_)
                    refine nm_r (e' := nI (y / 8 + 1)) (nI_add (y / 8) 1) ?_
                    intro P166 h166
                    refine pc_th (fun q => h166 _ (fun P225 h225 => pc_go0 (vh := vh) hJ (fun z hz hn => ?_) nx P225 h225)) (fun q1 q2 q3 q4 => h166 _ (fun P225 h225 => pc_go1 hL (z := y + 8) hvh hJ ?_ ?_ ?_ nx P225 h225))
                    · have := pc_q (by omega) (by omega) q
                      unfold nbr at hn
                      omega
                    · have := pc_p (by omega) q4
                      omega
                    · unfold nbr
                      omega
                    · exact pc_ix (by omega)
                  · refine br_n (by decide) (br_n (by decide) (h105 _ ?_))
                    refine nm_r (e' := nI (y % 8)) (nI_add (y % 8) 0) ?_
                    intro P134 h134
                    refine br_n (by decide) (br_e rfl (h134 _ ?_))
                    by_cases z0 : y / 8 = 0
                    · refine nm_r (e' := (-1 : Int32)) (by rw [z0]; rfl) ?_
                      intro P166 h166
                      refine pc_th (fun q => h166 _ (fun P225 h225 => pc_go0 (vh := vh) hJ (fun z hz hn => ?_) nx P225 h225)) (fun q1 q2 q3 q4 => absurd (by decide) q3)
                      unfold nbr at hn
                      omega
                    · obtain ⟨k, hk⟩ : ∃ k, y / 8 = k + 1 := ⟨y / 8 - 1, by omega⟩
                      refine nm_r (e' := nI k) (by rw [hk]; exact pk_m1 k) ?_
                      intro P166 h166
                      refine pc_th (fun q => h166 _ (fun P225 h225 => pc_go0 (vh := vh) hJ (fun z hz hn => ?_) nx P225 h225)) (fun q1 q2 q3 q4 => h166 _ (fun P225 h225 => pc_go1 hL (z := y - 8) hvh hJ ?_ ?_ ?_ nx P225 h225))
                      · have := pc_q (by omega) (by omega) q
                        omega
                      · omega
                      · unfold nbr
                        omega
                      · exact pc_ix (by omega)
              exact key74 4 0 b s n m (by omega) ⟨hI, q, ey, hy, my, fun i hi => absurd hi (by omega)⟩
          exact key55 64 0 1 _ _ _ (by omega) (pc_0 hc64 fc lt hs)
  have k0 := key 64 0 (fun _ => 0) (fun _ => 0) (by omega) (fun x hx => by
    rw [decide_eq_false (by omega), Bool.and_false]
    rfl)
  exact k0
