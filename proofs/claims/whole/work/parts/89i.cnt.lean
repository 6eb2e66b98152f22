/-! the reference's pieces, counted -/
theorem isR_u {f : Nat → Bool} {lab m : Nat → Nat} (h : Lb f lab) (h2 : Lb f m) {x : Nat} (hx : x < 64) : isR f m x = isR f lab x := by
  unfold isR
  cases fx : f x
  · rfl
  · rw [Lb_u h h2 hx fx]
theorem szP_u {f : Nat → Bool} {lab m : Nat → Nat} (h : Lb f lab) (h2 : Lb f m) (t : Nat) : szP f m t = szP f lab t := ct_congr (fun x hx => by
  cases fx : f x
  · rfl
  · rw [Lb_u h h2 hx fx])
theorem mxP_u {f : Nat → Bool} {lab m : Nat → Nat} (h : Lb f lab) (h2 : Lb f m) : ∀ t, t ≤ 64 → mxP f m t = mxP f lab t
  | 0, _ => rfl
  | t + 1, ht => by
    show (if isR f m t = true then max (mxP f m t) (szP f m t) else mxP f m t) = (if isR f lab t = true then max (mxP f lab t) (szP f lab t) else mxP f lab t)
    rw [isR_u h h2 (by omega), szP_u h h2, mxP_u h h2 t (by omega)]
theorem szP_pos {f : Nat → Bool} {lab : Nat → Nat} (h : Lb f lab) {t : Nat} (ht : t < 64) : 0 < szP f lab t ↔ isR f lab t = true := by
  constructor
  · intro p
    obtain ⟨x, hx, e⟩ := ct_ne0 (p := fun x => f x && decide (lab x = t)) (n := 64) (show szP f lab t ≠ 0 by omega)
    have e' : (f x && decide (lab x = t)) = true := e
    rw [Bool.and_eq_true, decide_eq_true_eq] at e'
    obtain ⟨a, b, c⟩ := Lb_lab h hx e'.1
    rw [e'.2] at b c
    show (f t && decide (lab t = t)) = true
    rw [b, decide_eq_true c]; rfl
  · intro q
    have q' : (f t && decide (lab t = t)) = true := q
    refine Nat.pos_of_ne_zero (fun z => ?_)
    have z2 : (f t && decide (lab t = t)) = false := ct_0 (p := fun x => f x && decide (lab x = t)) (show szP f lab t = 0 from z) ht
    rw [q'] at z2
    exact absurd z2 (by decide)
theorem pm_pieceSize {zz pcs : Nat → Int32} {post : Int32 → Prop} (f : Nat → Bool) (hz : ∀ i, i < 64 → (zz (7 + i) = 0 ↔ f i = true)) (m : Nat → Nat) (hp : ∀ x, x < 64 → pcs x = nI (m x)) (hm : ∀ x, x < 64 → m x ≤ x) (t : Nat) (ht : t < 64) (h : post (nI (szP f m t))) : wp_X6_pieceSize zz pcs (nI t) post := by
  intro P hP
  refine pm_cnt (post := post) 64 (fun x => f x && decide (m x = t)) (by decide) h hP (fun k j hj hk hn => ?_)
  rw [show (7 : Int32) + nI j = nI (7 + j) from nI_add 7 j]
  refine ⟨vp_in_nI (by omega) (by omega), ?_⟩
  intro P38 h38
  rw [nI_clamp (n := 7 + j) (by omega), nI_clamp (n := j) (by omega), hp j hj]
  have l := hm j hj
  have hn' : P (nI (k + if (f j && decide (m j = t)) = true then 1 else 0)) (nI (j + 1)) := hn
  have no : (f j && decide (m j = t)) = false → P38 0 := fun q => h38 _ (fun w e => by
    subst e
    rw [q, if_neg (by decide)] at hn'
    exact pm_p0 hn')
  have yes : (f j && decide (m j = t)) = true → P38 1 := fun q => h38 _ (fun w e => by
    subst e
    rw [if_pos q] at hn'
    exact pm_p1 hn')
  intro P37 h37
  refine ⟨fun z => h37 (no ?_), fun z => ⟨vp_in_nI hj (by omega), fun z2 => h37 (no ?_), fun z2 => yes ?_⟩⟩
  · cases fj : f j
    · rfl
    · exact absurd ((hz j hj).mpr fj) z
  · rw [decide_eq_false (fun q => z2 (by rw [q])), Bool.and_false]
  · rw [(hz j hj).mp z, decide_eq_true ((nI_eq (by omega) (by omega)).mp z2)]; rfl
theorem pm_pieceMany {zz pcs : Nat → Int32} {post : Int32 → (Nat → Int32) → Prop} (f : Nat → Bool) (hz : ∀ i, i < 64 → (zz (7 + i) = 0 ↔ f i = true)) (lab : Nat → Nat) (hL : Lb f lab) (h : ∀ pcs', post (nI (ct (isR f lab) 64)) pcs') : wp_X6_pieceMany zz pcs post := by
  refine pm_layPieces f hz (fun pcs' m hI hm => ?_)
  have eR : ct (isR f m) 64 = ct (isR f lab) 64 := ct_congr (fun x hx => isR_u hL hm hx)
  intro P hP
  refine pm_cnt (post := fun r => post r pcs') 64 (isR f m) (by decide) (by rw [eR]; exact h pcs') hP (fun k j hj hk hn => ?_)
  refine pm_pieceSize f hz m hI.1 (fun x hx => (hI.2 x hx).1) j hj ?_
  have sl := szP_le f m j
  have sp := szP_pos hm hj
  intro P28 h28
  refine ⟨fun z => h28 _ (fun w e => ?_), fun z => h28 _ (fun w e => ?_)⟩
  · subst e
    rw [if_neg (fun q => nI_ge (a := 0) (sp.mpr q) (by omega) z)] at hn
    exact pm_p0 hn
  · subst e
    have gt : 0 < szP f m j := Nat.pos_of_ne_zero (fun q => z (nI_le (a := szP f m j) (b := 0) (by omega) (by omega)))
    rw [if_pos (sp.mp gt)] at hn
    exact pm_p1 hn
theorem pm_largest {zz pcs : Nat → Int32} {post : Int32 → (Nat → Int32) → Prop} (f : Nat → Bool) (hz : ∀ i, i < 64 → (zz (7 + i) = 0 ↔ f i = true)) (lab : Nat → Nat) (hL : Lb f lab) (h : ∀ pcs', post (nI (mxP f lab 64)) pcs') : wp_X6_largest zz pcs post := by
  refine pm_layPieces f hz (fun pcs' m hI hm => ?_)
  intro P hP
  have key : ∀ d j, j + d = 64 → P (nI (mxP f m j)) (nI j) := by
    intro d
    induction d with
    | zero =>
      intro j hj
      have : j = 64 := by omega
      subst this
      refine hP _ _ (br_t (nI_le (a := 64) (b := 64) (Nat.le_refl _) (by omega)) ?_)
      rw [mxP_u hL hm 64 (Nat.le_refl _)]
      exact h pcs'
    | succ d ih =>
      intro j hj
      refine hP _ _ (br_f (nI_ge (a := j) (b := 64) (by omega) (by omega)) ?_)
      refine pm_pieceSize f hz m hI.1 (fun x hx => (hI.2 x hx).1) j (by omega) ?_
      have sl := szP_le f m j
      have ml := mxP_le f m j
      have sp := szP_pos hm (t := j) (by omega)
      have nx := ih (j + 1) (by omega)
      intro P30 h30
      have e : mxP f m (j + 1) = max (mxP f m j) (szP f m j) := by
        show (if isR f m j = true then max (mxP f m j) (szP f m j) else mxP f m j) = _
        by_cases z : isR f m j = true
        · rw [if_pos z]
        · rw [if_neg z]
          have : szP f m j = 0 := Nat.eq_zero_of_not_pos (fun q => z (sp.mp q))
          omega
      rw [e] at nx
      refine ⟨fun z => h30 _ ?_, fun z => h30 _ ?_⟩
      · have le : ¬ mxP f m j < szP f m j := fun q => nI_ge q (by omega) z
        rw [Nat.max_eq_left (by omega)] at nx
        rw [pu_i1]
        exact nx
      · have le : ¬ szP f m j ≤ mxP f m j := fun q => z (nI_le q (by omega))
        rw [Nat.max_eq_right (by omega)] at nx
        rw [pu_i1]
        exact nx
  exact key 64 0 (by omega)
theorem gop_count : gOp_count gR := by
  intro isSaved npat ngoal ncol nmade nmac nks spat sgoal scol smade smac sks hkept hks hmade hmac hcol hpat hgoal tmade tmac tks wlen wpos wlet wcol wrow wnum chs pastMany isKept typed wid hei toldMany spot wrong zz past kz buf stk laid pcs told hR x1
  obtain ⟨p, sp, ik, k, hp, tl, tx, hk, hC, hS, ei, ek, hH, hT, hM, hKz, eik, ekm, hPH, eT⟩ := hR
  have hC0 := hC
  obtain ⟨ok, hn, hm, hks_, h5, h6, h7⟩ := hC
  have fin : ∀ pcs', gR isSaved npat ngoal ncol nmade nmac nks spat sgoal scol smade smac sks hkept hks hmade hmac hcol hpat hgoal tmade tmac tks wlen wpos wlet wcol wrow wnum chs pastMany isKept typed wid hei toldMany spot wrong zz past kz buf stk laid pcs' told := fun _ => ⟨p, sp, ik, k, hp, tl, tx, hk, hC0, hS, ei, ek, hH, hT, hM, hKz, eik, ekm, hPH, eT⟩
  have fr : ∀ i, i < 64 → ib (npat ^^^ (-1 : Int64)) i = (fun x => !qp p x) i := fun i hi => by rw [ib_not npat hi, h5 i hi]
  have hz0 : ∀ i, i < 64 → (zz (7 + i) = 0 ↔ (fun x => !qp p x) i = true) := fun i hi => by
    rw [hM.2.2.2.1 i hi, bI_0]
    show _ ↔ (!qp p i) = true
    cases qp p i <;> decide
  obtain ⟨lab, hL⟩ := lab_ex (fun x => !qp p x)
  refine ⟨fun e => ?_, fun e => ?_, fun e => ?_, fun e => ?_, fun e => ?_, fun e => ?_, fun e => ?_⟩
  · exact pm_count p hM (fun _ => ⟨rfl, fin _⟩) (fun q => absurd e (by subst q; decide)) (fun q => absurd e (by subst q; decide)) (fun q => absurd e (by subst q; decide)) (fun q => absurd e (by subst q; decide)) (fun q => absurd e (by subst q; decide)) (fun q => absurd e (by subst q; decide))
  · subst e
    refine pu_bitCount ?_
    exact pm_count p hM (fun q => absurd q (by decide)) (fun _ => ⟨by rw [cB_pat hC0], fin _⟩) (fun q => absurd q (by decide)) (fun q => absurd q (by decide)) (fun q => absurd q (by decide)) (fun q => absurd q (by decide)) (fun q => absurd q (by decide))
  · subst e
    refine pu_numberIn _ lab hL fr ?_
    exact pm_count p hM (fun q => absurd q (by decide)) (fun q => absurd q (by decide)) (fun _ => pm_pieceMany _ hz0 lab hL (fun pcs' => ⟨rfl, fin _⟩)) (fun q => absurd q (by decide)) (fun q => absurd q (by decide)) (fun q => absurd q (by decide)) (fun q => absurd q (by decide))
  · subst e
    refine pu_largestIn _ lab hL fr ?_
    exact pm_count p hM (fun q => absurd q (by decide)) (fun q => absurd q (by decide)) (fun q => absurd q (by decide)) (fun _ => pm_largest _ hz0 lab hL (fun pcs' => ⟨rfl, fin _⟩)) (fun q => absurd q (by decide)) (fun q => absurd q (by decide)) (fun q => absurd q (by decide))
  · subst e
    refine pu_colouredSides (qc p) h6 ?_
    exact pm_count p hM (fun q => absurd q (by decide)) (fun q => absurd q (by decide)) (fun q => absurd q (by decide)) (fun q => absurd q (by decide)) (fun _ => ⟨rfl, fin _⟩) (fun q => absurd q (by decide)) (fun q => absurd q (by decide))
  · subst e
    refine pu_bitCount ?_
    have e4 : cB ngoal = ct (qg p) 64 := ct_congr (fun c hc => h7 c hc)
    exact pm_count p hM (fun q => absurd q (by decide)) (fun q => absurd q (by decide)) (fun q => absurd q (by decide)) (fun q => absurd q (by decide)) (fun q => absurd q (by decide)) (fun _ => ⟨by rw [e4], fin _⟩) (fun q => absurd q (by decide))
  · subst e
    refine pu_bitCount ?_
    have e5 : cB (npat ^^^ ngoal) = ct (fun j => qp p j ^^ qg p j) 64 := ct_congr (fun c hc => by rw [ib_xor, h5 c hc, h7 c hc])
    exact pm_count p hM (fun q => absurd q (by decide)) (fun q => absurd q (by decide)) (fun q => absurd q (by decide)) (fun q => absurd q (by decide)) (fun q => absurd q (by decide)) (fun q => absurd q (by decide)) (fun _ => ⟨by rw [e5], fin _⟩)
