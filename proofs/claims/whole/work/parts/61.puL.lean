/-! the reference: one fold laid -/
theorem pm_sel1 {k j : Nat} {P : Int32 → Prop} {a b : Int32} (hk : k < 2 ^ 31) (hj : j < 2 ^ 31) (h : P (if k = j then b else a)) : (¬ nI k = nI j → P a) ∧ (nI k = nI j → P b) := by
  refine ⟨fun z => ?_, fun z => ?_⟩
  · rw [if_neg (fun q => z (by rw [q]))] at h
    exact h
  · rw [if_pos ((nI_eq hk hj).mp z)] at h
    exact h
theorem pm_sel2 {k i j : Nat} {P : Int32 → Prop} {a b c : Int32} (hk : k < 2 ^ 31) (hi : i < 2 ^ 31) (hj : j < 2 ^ 31) (h : P (if k = i then c else if k = j then b else a)) : (¬ nI k = nI i → (¬ nI k = nI j → P a) ∧ (nI k = nI j → P b)) ∧ (nI k = nI i → P c) := by
  refine ⟨fun z => ?_, fun z => ?_⟩
  · rw [if_neg (fun q => z (by rw [q]))] at h
    exact pm_sel1 hk hj h
  · rw [if_pos ((nI_eq hk hi).mp z)] at h
    exact h
theorem pm_ah_t {x half : Nat} {fm : Bool} (h : x < half) : fp_ah x half fm true = if fm then half - 1 - x else 2 * half - 1 - x := by
  unfold fp_ah
  cases fm <;> simp <;> omega
theorem pm_ah_f {x half : Nat} {fm : Bool} : fp_ah x half fm false = if fm then half + x else x := by
  unfold fp_ah
  cases fm <;> simp
theorem pm_layFold {wid hei : Int32} {stk laid : Nat → Int32} {x1 : Int32} {post : Int32 → Int32 → (Nat → Int32) → (Nat → Int32) → Prop} (kf : Nat → Nat) (n : Nat) (ok : fp_ok kf (n + 1)) (hL : pL kf n wid hei stk) (hx : x1 = nI (kf n))
    (h : ∀ stk' laid', pL kf (n + 1) (nI (fp_w kf (n + 1))) (nI (fp_h kf (n + 1))) stk' → post (nI (fp_w kf (n + 1))) (nI (fp_h kf (n + 1))) stk' laid') : wp_X6_layFold wid hei stk laid x1 post := by
  obtain ⟨hw, hh, hst⟩ := hL
  subst hx
  have ok0 := fp_ok_p ok
  have hk4 := ok.1 n (by omega)
  have hws := fp_w_s ok
  have hhs := fp_h_s ok
  have bw := fp_w_b kf n ok0
  have bh := fp_h_b kf n ok0
  have bw' := fp_w_b kf (n + 1) ok
  have bh' := fp_h_b kf (n + 1) ok
  have bL := fp_L_b (fp_ok_6 ok0)
  have e64 := fp_wh kf n ok0
  have e64' := fp_wh kf (n + 1) ok
  have h2 : 2 ^ (n + 1) = 2 * 2 ^ n := by rw [Nat.pow_succ]; omega
  have us1 : ∀ c r i, fp_us kf (n + 1) c r i = if decide (i < 2 ^ n) = true then fp_tu (fp_us kf n (if kf n < 2 then fp_ah c (fp_w kf (n + 1)) (decide (kf n % 2 = 0)) (decide (i < 2 ^ n)) else c) (if kf n < 2 then r else fp_ah r (fp_h kf (n + 1)) (decide (kf n % 2 = 0)) (decide (i < 2 ^ n))) (if decide (i < 2 ^ n) = true then 2 ^ n - 1 - i else i - 2 ^ n)) else (fp_us kf n (if kf n < 2 then fp_ah c (fp_w kf (n + 1)) (decide (kf n % 2 = 0)) (decide (i < 2 ^ n)) else c) (if kf n < 2 then r else fp_ah r (fp_h kf (n + 1)) (decide (kf n % 2 = 0)) (decide (i < 2 ^ n))) (if decide (i < 2 ^ n) = true then 2 ^ n - 1 - i else i - 2 ^ n)) := fun c r i => rfl
  rw [h2] at e64'
  refine pm_layers kf n ok0 hw hh ?_
  subst hw hh
  generalize hM : 2 ^ n = M at *
  generalize hW : fp_w kf n = W at *
  generalize hH : fp_h kf n = H at *
  generalize hW' : fp_w kf (n + 1) = W' at *
  generalize hH' : fp_h kf (n + 1) = H' at *
  generalize hk : kf n = k at *
  intro P23 hP23
  have s23 : P23 (nI W') → ((2 : Int32) ≤ nI k → P23 (nI W)) ∧ (¬ (2 : Int32) ≤ nI k → P23 (nI W / (2 : Int32))) := by
    intro q
    refine pk_le 2 k (fun z => ?_) (fun z => ?_)
    · rw [if_neg (by omega)] at hws
      rw [hws]; exact q
    · rw [if_pos z] at hws
      rw [show nI W / (2 : Int32) = nI (W / 2) from pk_div (d := 2) (by omega) (by decide) (by decide), show W / 2 = W' by omega]
      exact q
  refine s23 (hP23 _ ?_)
  intro P42 hP42
  have s42 : P42 (nI H') → ((2 : Int32) ≤ nI k → P42 (nI H / (2 : Int32))) ∧ (¬ (2 : Int32) ≤ nI k → P42 (nI H)) := by
    intro q
    refine pk_le 2 k (fun z => ?_) (fun z => ?_)
    · rw [if_neg (by omega)] at hhs
      rw [show nI H / (2 : Int32) = nI (H / 2) from pk_div (d := 2) (by omega) (by decide) (by decide), show H / 2 = H' by omega]
      exact q
    · rw [if_pos z] at hhs
      rw [hhs]; exact q
  refine s42 (hP42 _ ?_)
  intro P47 hP47
  -- what is laid
  have key : ∀ kk row (laid : Nat → Int32), row + kk = H' → (∀ c r i, c < W' → r < H' → i < 2 * M → r < row → laid ((r * W' + c) * (2 * M) + i) = nI (fp_us kf (n + 1) c r i)) → P47 (nI row) laid := by
    intro kk
    induction kk with
    | zero =>
      intro row laid hrow I
      apply hP47
      have hrow' : row = H' := by omega
      subst hrow'
      refine br_t (nI_le (Nat.le_refl _) (by omega)) ?_
      intro P272 hP272
      have cp : ∀ j2 j1 (stk2 : Nat → Int32), j1 + j2 = 64 → (∀ q, q < j1 → stk2 q = laid q) → P272 (nI j1) stk2 := by
        intro j2
        induction j2 with
        | zero =>
          intro j1 stk2 hj J
          apply hP272
          have hj' : j1 = 64 := by omega
          subst hj'
          refine br_t (nI_le (a := 64) (b := 64) (Nat.le_refl _) (by omega)) ?_
          refine h stk2 laid ⟨congrArg nI hW'.symm, congrArg nI hH'.symm, fun c r i hc hr hi => ?_⟩
          rw [hW'] at hc
          rw [hH'] at hr
          rw [h2] at hi
          rw [hW', h2]
          have lt : (r * W' + c) * (2 * M) + i < 64 := by
            have := pl_lt hc hr hi
            omega
          rw [J _ lt]
          exact I c r i hc hr hi hr
        | succ j2 ih =>
          intro j1 stk2 hj J
          apply hP272
          refine br_f (nI_ge (a := j1) (b := 64) (by omega) (by omega)) ⟨vp_in_nI (by omega) (by omega), vp_in_nI (by omega) (by omega), ?_⟩
          rw [pu_i1, nI_clamp (by omega)]
          refine ih (j1 + 1) _ (by omega) (fun q hq => ?_)
          rw [pu_upd]
          split
          · rename_i z
            rw [z]
          · exact J q (by omega)
      exact cp 64 0 _ (by omega) (fun q hq => absurd hq (by omega))
    | succ kk ihr =>
      intro row laid hrow I
      apply hP47
      refine br_f (nI_ge (by omega) (by omega)) ?_
      intro P57 hP57
      have col : ∀ c2 cl (laid : Nat → Int32), cl + c2 = W' → (∀ c r i, c < W' → r < H' → i < 2 * M → (r < row ∨ (r = row ∧ c < cl)) → laid ((r * W' + c) * (2 * M) + i) = nI (fp_us kf (n + 1) c r i)) → P57 (nI cl) laid := by
        intro c2
        induction c2 with
        | zero =>
          intro cl laid hcl I
          apply hP57
          have hcl' : cl = W' := by omega
          refine br_t (nI_le (by omega) (by omega)) ?_
          rw [pu_i1]
          exact ihr (row + 1) laid (by omega) (fun c r i hc hr hi hlt => I c r i hc hr hi (by omega))
        | succ c2 ihc =>
          intro cl laid hcl I
          apply hP57
          refine br_f (nI_ge (by omega) (by omega)) ?_
          -- the four numbers
          obtain ⟨sc, hsc⟩ : ∃ sc, sc = if k < 2 then fp_ah cl W' (decide (k % 2 = 0)) false else cl := ⟨_, rfl⟩
          obtain ⟨sr, hsr⟩ : ∃ sr, sr = if k < 2 then row else fp_ah row H' (decide (k % 2 = 0)) false := ⟨_, rfl⟩
          obtain ⟨oc, hoc⟩ : ∃ oc, oc = if k < 2 then fp_ah cl W' (decide (k % 2 = 0)) true else cl := ⟨_, rfl⟩
          obtain ⟨or_, hor⟩ : ∃ or_, or_ = if k < 2 then row else fp_ah row H' (decide (k % 2 = 0)) true := ⟨_, rfl⟩
          have k4 : k = 0 ∨ k = 1 ∨ k = 2 ∨ k = 3 := by omega
          have hclW : cl < W' := by omega
          have hWge : W' ≤ W := by rw [hws]; split <;> omega
          have hHge : H' ≤ H := by rw [hhs]; split <;> omega
          have hrwH : row < H' := by omega
          have scb : sc < W ∧ oc < W ∧ sr < H ∧ or_ < H := by
            have a1 := fp_ah_lt (fm := decide (k % 2 = 0)) (mv := false) hclW
            have a2 := fp_ah_lt (fm := decide (k % 2 = 0)) (mv := true) hclW
            have a3 := fp_ah_lt (fm := decide (k % 2 = 0)) (mv := false) hrwH
            have a4 := fp_ah_lt (fm := decide (k % 2 = 0)) (mv := true) hrwH
            by_cases z : k < 2
            · rw [if_pos z] at hws hhs hsc hsr hoc hor
              omega
            · rw [if_neg z] at hws hhs hsc hsr hoc hor
              omega
          rw [pm_ah_f] at hsc hsr
          rw [pm_ah_t hclW] at hoc
          rw [pm_ah_t hrwH] at hor
          intro P76 hP76
          have esc : (if k = 0 then nI cl + nI W' else nI cl) = nI sc := by
            rw [nI_add, pu_ite, hsc]
            rcases k4 with rfl | rfl | rfl | rfl <;> simp <;> rw [Nat.add_comm]
          refine pm_sel1 (k := k) (j := 0) (P := P76) (by omega) (by omega) (hP76 _ ?_)
          rw [esc]
          intro P91 hP91
          have esr : (if k = 2 then nI row + nI H' else nI row) = nI sr := by
            rw [nI_add, pu_ite, hsr]
            rcases k4 with rfl | rfl | rfl | rfl <;> simp <;> rw [Nat.add_comm]
          refine pm_sel1 (k := k) (j := 2) (P := P91) (by omega) (by omega) (hP91 _ ?_)
          rw [esr]
          refine pm_field sc sr W ?_
          intro P132 hP132
          have eoc : (if k = 0 then nI W' - (1 : Int32) - nI cl else if k = 1 then nI W - (1 : Int32) - nI cl else nI cl) = nI oc := by
            rw [show nI W' - (1 : Int32) = nI (W' - 1) from pk_sub (b := 1) (by omega), show nI W - (1 : Int32) = nI (W - 1) from pk_sub (b := 1) (by omega), pk_sub (a := W' - 1) (by omega), pk_sub (a := W - 1) (by omega), pu_ite, pu_ite, hoc]
            rcases k4 with rfl | rfl | rfl | rfl <;> simp at hws ⊢
            rw [hws]
          refine pm_sel2 (k := k) (i := 0) (j := 1) (P := P132) (by omega) (by omega) (by omega) (hP132 _ ?_)
          rw [eoc]
          intro P166 hP166
          have eor : (if k = 2 then nI H' - (1 : Int32) - nI row else if k = 3 then nI H - (1 : Int32) - nI row else nI row) = nI or_ := by
            rw [show nI H' - (1 : Int32) = nI (H' - 1) from pk_sub (b := 1) (by omega), show nI H - (1 : Int32) = nI (H - 1) from pk_sub (b := 1) (by omega), pk_sub (a := H' - 1) (by omega), pk_sub (a := H - 1) (by omega), pu_ite, pu_ite, hor]
            rcases k4 with rfl | rfl | rfl | rfl <;> simp at hhs ⊢
            rw [hhs]
          refine pm_sel2 (k := k) (i := 2) (j := 3) (P := P166) (by omega) (by omega) (by omega) (hP166 _ ?_)
          rw [eor]
          refine pm_field oc or_ W ?_
          refine pm_field cl row W' ?_
          have ew9 : nI (row * W' + cl) * (2 : Int32) * nI M = nI ((row * W' + cl) * (2 * M)) := by
            rw [show nI (row * W' + cl) * (2 : Int32) = nI ((row * W' + cl) * 2) from pk_mul _ 2, pk_mul, Nat.mul_assoc]
          refine nm_r ew9 ?_
          intro P192 hP192
          have bq : ∀ q, q < M → (or_ * W + oc) * M + (M - 1 - q) < 64 ∧ (sr * W + sc) * M + q < 64 ∧ (row * W' + cl) * (2 * M) + (M + q) < 64 := by
            intro q hq
            have a1 := pl_lt (i := M - 1 - q) (L := M) scb.2.1 scb.2.2.2 (by omega)
            have a2 := pl_lt (i := q) (L := M) scb.1 scb.2.2.1 hq
            have a3 := pl_lt (i := M + q) (L := 2 * M) hclW hrwH (by omega)
            omega
          have inn : ∀ q2 q (laid : Nat → Int32), q + q2 = M → (∀ c r i, c < W' → r < H' → i < 2 * M → (r < row ∨ (r = row ∧ c < cl) ∨ (r = row ∧ c = cl ∧ (i < q ∨ (M ≤ i ∧ i < M + q)))) → laid ((r * W' + c) * (2 * M) + i) = nI (fp_us kf (n + 1) c r i)) → P192 (nI q) laid := by
            intro q2
            induction q2 with
            | zero =>
              intro q laid hq I
              apply hP192
              refine br_t (nI_le (by omega) (by omega)) ?_
              rw [pu_i1]
              exact ihc (cl + 1) laid (by omega) (fun c r i hc hr hi hlt => I c r i hc hr hi (by omega))
            | succ q2 ihq =>
              intro q laid hq I
              apply hP192
              refine br_f (nI_ge (by omega) (by omega)) ?_
              obtain ⟨b1, b2, b3⟩ := bq q (by omega)
              have e1 : nI (or_ * W + oc) * nI M + nI M - (1 : Int32) - nI q = nI ((or_ * W + oc) * M + (M - 1 - q)) := by
                rw [pk_mul, nI_add, show nI ((or_ * W + oc) * M + M) - (1 : Int32) = nI ((or_ * W + oc) * M + M - 1) from pk_sub (b := 1) (by omega), pk_sub (by omega)]
                congr 1
                omega
              have e2 : nI (sr * W + sc) * nI M + nI q = nI ((sr * W + sc) * M + q) := by rw [pk_mul, nI_add]
              have e3 : nI ((row * W' + cl) * (2 * M)) + nI q = nI ((row * W' + cl) * (2 * M) + q) := nI_add _ _
              have e4 : nI ((row * W' + cl) * (2 * M)) + nI M + nI q = nI ((row * W' + cl) * (2 * M) + (M + q)) := by rw [nI_add, nI_add, Nat.add_assoc]
              rw [e1, e2, e3, e4]
              refine ⟨vp_in_nI b1 (by omega), ?_⟩
              rw [nI_clamp (by omega), nI_clamp (by omega), nI_clamp (by omega), nI_clamp (by omega)]
              rw [hst oc or_ (M - 1 - q) scb.2.1 scb.2.2.2 (by omega), hst sc sr q scb.1 scb.2.2.1 (by omega)]
              have u1 : fp_us kf n oc or_ (M - 1 - q) < 128 := fp_us_lt kf n _ _ _ ok0 (by rw [hW]; exact scb.2.1) (by rw [hH]; exact scb.2.2.2) (by rw [hM]; omega)
              refine pm_turned _ (by omega) ⟨vp_in_nI (by omega) (by omega), vp_in_nI b2 (by omega), vp_in_nI b3 (by omega), ?_⟩
              rw [pu_i1]
              refine ihq (q + 1) _ (by omega) (fun c r i hc hr hi hlt => ?_)
              have t1 : fp_us kf (n + 1) cl row q = fp_tu (fp_us kf n oc or_ (M - 1 - q)) := by
                rw [us1, decide_eq_true (show q < M by omega), if_pos rfl, if_pos rfl, pm_ah_t hclW, pm_ah_t hrwH, ← hoc, ← hor]
              have t2 : fp_us kf (n + 1) cl row (M + q) = fp_us kf n sc sr q := by
                rw [us1, decide_eq_false (show ¬ M + q < M by omega), if_neg (show ¬ (false = true) by decide), if_neg (show ¬ (false = true) by decide), pm_ah_f, pm_ah_f, ← hsc, ← hsr, Nat.add_sub_cancel_left]
              rw [pu_upd, pu_upd]
              by_cases z1 : (r * W' + c) * (2 * M) + i = (row * W' + cl) * (2 * M) + (M + q)
              · rw [if_pos z1]
                obtain ⟨rfl, rfl, rfl⟩ := pl_inj hc hclW hi (by omega) z1
                exact congrArg nI t2.symm
              · rw [if_neg z1]
                by_cases z2 : (r * W' + c) * (2 * M) + i = (row * W' + cl) * (2 * M) + q
                · rw [if_pos z2]
                  obtain ⟨rfl, rfl, rfl⟩ := pl_inj hc hclW hi (by omega) z2
                  exact congrArg nI t1.symm
                · rw [if_neg z2]
                  refine I c r i hc hr hi ?_
                  rcases hlt with g | g | ⟨g1, g2, g3⟩
                  · exact Or.inl g
                  · exact Or.inr (Or.inl g)
                  · subst g1 g2
                    refine Or.inr (Or.inr ⟨rfl, rfl, ?_⟩)
                    rcases g3 with g | g
                    · have : i ≠ q := fun e => z2 (by rw [e])
                      omega
                    · have : i ≠ M + q := fun e => z1 (by rw [e])
                      omega
          exact inn M 0 laid (by omega) (fun c r i hc hr hi hlt => I c r i hc hr hi (by omega))
      exact col W' 0 laid (by omega) (fun c r i hc hr hi hlt => I c r i hc hr hi (by omega))
  exact key H' 0 laid (by omega) (fun c r i hc hr hi hlt => absurd hlt (by omega))
