/-! the class: holes, ink, mend, target of a sheet -/
theorem pC_punch {pat goal : Int64} {col : Nat → Int32} {made mac : Int32} {ks : Nat → Int32} {p : Pap} {s : Int64} (hp : pC pat goal col made mac ks p) (c r d : Nat) (hs : ∀ x, x < 64 → ib s x = fp_in (qf p) (qn p) c r d x) : pC (pat ||| s) goal col made mac ks (qPunch p c r d) := by
  obtain ⟨ok, hn, hm, hk, h5, h6, h7⟩ := hp
  refine ⟨ok, hn, hm, hk, fun x hx => ?_, h6, h7⟩
  rw [ib_or, h5 x hx, hs x hx]
  rfl
theorem cB_pat {pat goal : Int64} {col : Nat → Int32} {made mac : Int32} {ks : Nat → Int32} {p : Pap} (hp : pC pat goal col made mac ks p) : cB pat = ct (qp p) 64 := ct_congr (fun k hk => hp.2.2.2.2.1 k hk)
theorem pu_makeHoles {pat goal : Int64} {col : Nat → Int32} {made mac : Int32} {ks : Nat → Int32} {x1 x2 x3 : Int32} {post : Int32 → Int64 → Prop} (p : Pap) (hp : pC pat goal col made mac ks p)
    (h0 : (∀ c r : Nat, c < qw p → r < qh p → ¬ (x1 = nI c ∧ x2 = nI r)) → post (-1) pat)
    (h1 : ∀ c r : Nat, c < qw p → r < qh p → x1 = nI c → x2 = nI r → (∀ d : Nat, 1 ≤ d → d ≤ 2 ^ qn p → x3 ≠ nI d) → post (-2) pat)
    (h2 : ∀ c r d : Nat, c < qw p → r < qh p → x1 = nI c → x2 = nI r → 1 ≤ d → d ≤ 2 ^ qn p → x3 = nI d → ∀ pat', pC pat' goal col made mac ks (qPunch p c r d) → post (nI (qNew p c r d)) pat') : wp_X3_makeHoles pat made mac ks x1 x2 x3 post := by
  have hp0 := hp
  obtain ⟨ok, hn, hm, hk, h5, h6, h7⟩ := hp
  have bL := fp_L_b (fp_ok_6 ok)
  refine pu_hasField _ _ ok hn hm (fun z => ?_) (fun c r hc hr e1 e2 => ?_)
  · exact ⟨fun q => absurd rfl q, fun _ => h0 z⟩
  · refine ⟨fun _ => ?_, fun q => absurd q (by decide)⟩
    intro P30 hP30
    have bad : (∀ d : Nat, 1 ≤ d → d ≤ 2 ^ qn p → x3 ≠ nI d) → P30 := fun z => hP30 (h1 c r hc hr e1 e2 z)
    rcases pu_rng x3 (2 ^ qn p + 1) (by omega) with z | z | ⟨d, hd, rfl⟩
    · refine br_t ?_ (bad (fun d d1 d2 e => by subst e; exact nI_pos (by omega) z))
      have z' := Int32.lt_iff_toInt_lt.mp z
      apply Int32.lt_iff_toInt_lt.mpr
      have a0 : (0 : Int32).toInt = 0 := by decide
      have a1 : (1 : Int32).toInt = 1 := by decide
      omega
    · have z' := Int32.le_iff_toInt_le.mp z
      rw [nI_toInt (by omega)] at z'
      have a1 : (1 : Int32).toInt = 1 := by decide
      refine br_f (fun q => ?_) ?_
      · have q' := Int32.lt_iff_toInt_lt.mp q
        omega
      · refine pu_layers _ (fp_ok_6 ok) hn ?_
        refine br_f (fun q => ?_) (bad (fun d d1 d2 e => by subst e; exact nI_ge (by omega) (by omega) z))
        have q' := Int32.le_iff_toInt_le.mp q
        rw [nI_toInt (by omega)] at q'
        omega
    · refine pk_lt d 1 (fun q => bad (fun d' d1 d2 e => ?_)) (fun q => ?_)
      · have := (nI_eq (by omega) (by omega)).mp e
        omega
      · refine pu_layers _ (fp_ok_6 ok) hn ?_
        refine br_t (nI_le (by omega) (by omega)) ?_
        refine pu_bitCount ?_
        subst e1 e2
        refine pu_uppermostCells _ _ ok hn hm hk c r d hc hr (by omega) (fun s hs => ?_)
        refine pu_bitCount ?_
        have hp' := pC_punch hp0 c r d hs
        have mono : ct (qp p) 64 ≤ ct (qp (qPunch p c r d)) 64 := ct_mono 64 (fun y _ hy => by show (qp p y || _) = true; rw [hy]; rfl)
        rw [cB_pat hp', cB_pat hp0, pk_sub mono]
        exact h2 c r d hc hr rfl rfl q (by omega) rfl _ hp'
theorem pu_uppermostWhole {pat goal : Int64} {col : Nat → Int32} {made mac : Int32} {ks : Nat → Int32} {post : Int32 → Prop} (p : Pap) (hp : pC pat goal col made mac ks p) (c r : Nat) (hc : c < qw p) (hr : r < qh p)
    (h0 : qT p c r = 2 ^ qn p → post (-6)) (h1 : qT p c r < 2 ^ qn p → post (nI (qu p c r (qT p c r)))) : wp_X3_uppermostWhole pat made mac ks (nI c) (nI r) post := by
  obtain ⟨ok, hn, hm, hk, h5, h6, h7⟩ := hp
  have bL := fp_L_b (fp_ok_6 ok)
  refine pu_layers _ (fp_ok_6 ok) hn ?_
  intro P hP
  have key : ∀ f i, i + f = 2 ^ qn p → qTop p c r f i = qT p c r → P (nI i) := by
    intro f
    induction f with
    | zero =>
      intro i hi e
      apply hP
      refine br_t (nI_le (by omega) (by omega)) (h0 ?_)
      rw [← e]
      show i = 2 ^ qn p
      omega
    | succ f ih =>
      intro i hi e
      apply hP
      have us := fp_us_lt _ _ c r i ok hc hr (by omega)
      refine br_f (nI_ge (by omega) (by omega)) ?_
      refine pu_upperSide _ _ ok hn hm hk c r i hc hr (by omega) ?_
      refine pu_cellOf _ (by omega) ?_
      refine pu_hasCell _ (by omega) ?_
      rw [h5 _ (by omega)]
      refine pu_brN (fun z => ?_) (fun z => ?_)
      · have e2 : qT p c r = i := by
          rw [← e]
          unfold qTop
          rw [if_neg]
          show ¬ qp p (fp_us (qf p) (qn p) c r i / 2) = true
          rw [z]
          decide
        have := h1 (by omega)
        rw [e2] at this
        exact this
      · rw [pu_i1]
        refine ih (i + 1) (by omega) ?_
        rw [← e]
        show _ = if qp p (qu p c r i / 2) = true then qTop p c r f (i + 1) else i
        rw [if_pos z]
  exact key (2 ^ qn p) 0 (by omega) rfl
theorem pC_ink {pat goal : Int64} {col : Nat → Int32} {made mac : Int32} {ks : Nat → Int32} {p : Pap} (hp : pC pat goal col made mac ks p) (s : Nat) (v : Int32) : pC pat goal (upd col s v) made mac ks (qInk p s v) := by
  obtain ⟨ok, hn, hm, hk, h5, h6, h7⟩ := hp
  refine ⟨ok, hn, hm, hk, h5, fun j hj => ?_, h7⟩
  rw [pu_upd]
  show _ = if j = s then v else qc p j
  split
  · rfl
  · exact h6 j hj
theorem pu_dropInk {pat goal : Int64} {col : Nat → Int32} {made mac : Int32} {ks : Nat → Int32} {x1 x2 x3 : Int32} {post : Int32 → (Nat → Int32) → Prop} (p : Pap) (hp : pC pat goal col made mac ks p)
    (h0 : (∀ c r : Nat, c < qw p → r < qh p → ¬ (x1 = nI c ∧ x2 = nI r)) → post (-1) col)
    (h1 : ∀ c r : Nat, c < qw p → r < qh p → x1 = nI c → x2 = nI r → (∀ d : Nat, 1 ≤ d → d ≤ 5 → x3 ≠ nI d) → post (-2) col)
    (h2 : ∀ c r d : Nat, c < qw p → r < qh p → x1 = nI c → x2 = nI r → 1 ≤ d → d ≤ 5 → x3 = nI d → qT p c r = 2 ^ qn p → post (-6) col)
    (h3 : ∀ c r d : Nat, c < qw p → r < qh p → x1 = nI c → x2 = nI r → 1 ≤ d → d ≤ 5 → x3 = nI d → qT p c r < 2 ^ qn p → ∀ col', pC pat goal col' made mac ks (qInk p (qu p c r (qT p c r)) (nI d)) → post (nI (qu p c r (qT p c r) / 2)) col') : wp_X3_dropInk pat col made mac ks x1 x2 x3 post := by
  have hp0 := hp
  obtain ⟨ok, hn, hm, hk, h5, h6, h7⟩ := hp
  refine pu_hasField _ _ ok hn hm (fun z => ?_) (fun c r hc hr e1 e2 => ?_)
  · exact ⟨fun q => absurd rfl q, fun _ => h0 z⟩
  · refine ⟨fun _ => ?_, fun q => absurd q (by decide)⟩
    intro P24 hP24
    have bad : (∀ d : Nat, 1 ≤ d → d ≤ 5 → x3 ≠ nI d) → P24 := fun z => hP24 (h1 c r hc hr e1 e2 z)
    rcases pu_rng x3 6 (by omega) with z | z | ⟨d, hd, rfl⟩
    · refine br_t ?_ (bad (fun d d1 d2 e => by subst e; exact nI_pos (by omega) z))
      have z' := Int32.lt_iff_toInt_lt.mp z
      apply Int32.lt_iff_toInt_lt.mpr
      have a0 : (0 : Int32).toInt = 0 := by decide
      have a1 : (1 : Int32).toInt = 1 := by decide
      omega
    · have z' := Int32.le_iff_toInt_le.mp z
      rw [nI_toInt (by omega)] at z'
      have a1 : (1 : Int32).toInt = 1 := by decide
      have a5 : (5 : Int32).toInt = 5 := by decide
      refine br_f (fun q => ?_) ?_
      · have q' := Int32.lt_iff_toInt_lt.mp q
        omega
      · refine br_f (fun q => ?_) (bad (fun d d1 d2 e => by subst e; exact nI_ge (by omega) (by omega) z))
        have q' := Int32.le_iff_toInt_le.mp q
        omega
    · refine pk_lt d 1 (fun q => bad (fun d' d1 d2 e => ?_)) (fun q => ?_)
      · have := (nI_eq (by omega) (by omega)).mp e
        omega
      · refine br_t (nI_le (b := 5) (by omega) (by omega)) ?_
        subst e1 e2
        refine pu_uppermostWhole p hp0 c r hc hr (fun z => ?_) (fun z => ?_)
        · exact ⟨fun q => absurd rfl q, fun _ => h2 c r d hc hr rfl rfl q (by omega) rfl z⟩
        · have us := fp_us_lt _ _ c r _ ok hc hr z
          have us' : qu p c r (qT p c r) < 128 := us
          refine ⟨fun _ => ?_, fun q => absurd q (pm_ne6 (by omega))⟩
          refine pu_setColour _ us' ?_
          refine pu_cellOf _ (by omega) ?_
          exact h3 c r d hc hr rfl rfl q (by omega) rfl z _ (pC_ink hp0 _ _)
theorem pC_mend {pat goal : Int64} {col : Nat → Int32} {made mac : Int32} {ks : Nat → Int32} {p : Pap} (hp : pC pat goal col made mac ks p) (x : Nat) (hx : x < 64) : pC (pat &&& (((1 : Int64) <<< ((nI x).toInt64 &&& (63 : Int64))) ^^^ (-1 : Int64))) goal (upd (upd col (2 * x) 0) (2 * x + 1) 0) made mac ks (qMend p x) := by
  obtain ⟨ok, hn, hm, hk, h5, h6, h7⟩ := hp
  refine ⟨ok, hn, hm, hk, fun y hy => ?_, fun j hj => ?_, h7⟩
  · rw [ib_and, ib_not _ hy, ib_bit hx hy, h5 y hy]
    rfl
  · rw [pu_upd, pu_upd]
    show _ = if j / 2 = x then 0 else qc p j
    by_cases z : j / 2 = x
    · rw [if_pos z]
      by_cases z2 : j = 2 * x + 1
      · rw [if_pos z2]
      · rw [if_neg z2, if_pos (by omega)]
    · rw [if_neg (by omega), if_neg (by omega), if_neg z]
      exact h6 j hj
theorem pu_mendTop {pat goal : Int64} {col : Nat → Int32} {made mac : Int32} {ks : Nat → Int32} {x1 x2 : Int32} {post : Int32 → Int64 → (Nat → Int32) → Prop} (p : Pap) (hp : pC pat goal col made mac ks p)
    (h0 : (∀ c r : Nat, c < qw p → r < qh p → ¬ (x1 = nI c ∧ x2 = nI r)) → post (-1) pat col)
    (h1 : ∀ c r : Nat, c < qw p → r < qh p → x1 = nI c → x2 = nI r → qp p (qu p c r 0 / 2) = false → post (-3) pat col)
    (h2 : ∀ c r : Nat, c < qw p → r < qh p → x1 = nI c → x2 = nI r → qp p (qu p c r 0 / 2) = true → ∀ pat' col', pC pat' goal col' made mac ks (qMend p (qu p c r 0 / 2)) → post (nI (qu p c r 0 / 2)) pat' col') : wp_X3_mendTop pat col made mac ks x1 x2 post := by
  have hp0 := hp
  obtain ⟨ok, hn, hm, hk, h5, h6, h7⟩ := hp
  have bL := fp_L_b (fp_ok_6 ok)
  refine pu_hasField _ _ ok hn hm (fun z => ?_) (fun c r hc hr e1 e2 => ?_)
  · exact ⟨fun q => absurd rfl q, fun _ => h0 z⟩
  · refine ⟨fun _ => ?_, fun q => absurd q (by decide)⟩
    have us := fp_us_lt _ _ c r 0 ok hc hr (by omega)
    have us' : qu p c r 0 < 128 := us
    have a1 := h1 c r hc hr e1 e2
    have a2 := h2 c r hc hr e1 e2
    subst e1 e2
    refine pu_upperSide _ _ ok hn hm hk c r 0 hc hr (by omega) ?_
    refine pu_cellOf _ (by omega) ?_
    show wp_X5_hasCell pat (nI (qu p c r 0 / 2)) _
    generalize hx : qu p c r 0 / 2 = x at a1 a2 ⊢
    have hx64 : x < 64 := by omega
    refine pu_hasCell _ hx64 ?_
    rw [h5 _ hx64]
    refine pu_brN (fun z => a1 z) (fun z => ?_)
    rw [show (2 : Int32) * nI x = nI (2 * x) from pk_mul 2 x, pu_i1]
    refine pu_setColour _ (by omega) ?_
    refine pu_setColour _ (by omega) ?_
    exact a2 z _ _ (pC_mend hp0 x hx64)
def qAim (p : Pap) (r m : Nat) : Pap := (qn p, qf p, qp p, qc p, fun x => if x / 8 = r then m.testBit (x % 8) else qg p x)
theorem pu_changeGoal {pat goal : Int64} {col : Nat → Int32} {made mac : Int32} {ks : Nat → Int32} {x1 x2 : Int32} {post : Int32 → Int64 → Prop} (p : Pap) (hp : pC pat goal col made mac ks p)
    (h0 : (∀ r : Nat, r < 8 → x1 ≠ nI r) → post (-1) goal)
    (h1 : ∀ r : Nat, r < 8 → x1 = nI r → (∀ m : Nat, m < 256 → x2 ≠ nI m) → post (-2) goal)
    (h2 : ∀ r m : Nat, r < 8 → x1 = nI r → m < 256 → x2 = nI m → ∀ goal', pC pat goal' col made mac ks (qAim p r m) → post (nI (rowN (fun c => qg p (8 * r + c)) 8)) goal') : wp_X3_changeGoal goal x1 x2 post := by
  have hp0 := hp
  obtain ⟨ok, hn, hm, hk, h5, h6, h7⟩ := hp
  refine pu_isRow x1 (fun z => ?_) (fun r hr e1 => ?_)
  · exact ⟨fun q => absurd rfl q, fun _ => h0 z⟩
  · refine ⟨fun _ => ?_, fun q => absurd q (by decide)⟩
    intro P20 hP20
    have bad : (∀ m : Nat, m < 256 → x2 ≠ nI m) → P20 := fun z => hP20 (h1 r hr e1 z)
    rcases pu_rng x2 256 (by omega) with z | z | ⟨m, hm', rfl⟩
    · exact br_t z (bad (fun d hd e => by subst e; exact nI_pos (by omega) z))
    · refine br_f (pu_ng (by omega) z) ?_
      refine br_f (fun q => ?_) (bad (fun d hd e => by subst e; exact nI_ge hd (by omega) z))
      have z' := Int32.le_iff_toInt_le.mp z
      have q' := Int32.le_iff_toInt_le.mp q
      have a5 : (255 : Int32).toInt = 255 := by decide
      rw [nI_toInt (by omega)] at z'
      omega
    · refine br_f (nI_pos (by omega)) ?_
      refine br_t (nI_le (b := 255) (by omega) (by omega)) ?_
      have a2 := h2 r m hr e1 hm' rfl
      subst e1
      refine pu_maskOfRow r hr (fun v hv hvb => ?_)
      have ev : v = rowN (fun c => qg p (8 * r + c)) 8 := rowN_of hv (fun c hc => by rw [hvb c hc, h7 _ (by omega)])
      rw [← ev] at a2
      refine a2 _ ⟨ok, hn, hm, hk, h5, h6, fun x hx => ?_⟩
      rw [show (8 : Int32) * nI r = nI (8 * r) from pk_mul 8 r, ib_xor, ib_shl (by omega) _ hx, h7 x hx]
      show _ = if x / 8 = r then m.testBit (x % 8) else qg p x
      have bt : ∀ i, i < 64 → ib ((nI v ^^^ nI m).toInt64) i = (v.testBit i ^^ m.testBit i) := by
        intro i hi
        have e1 : nI v ^^^ nI m = nI (v ^^^ m) := by
          apply Int32.toBitVec_inj.mp
          rw [Int32.toBitVec_xor]
          show BitVec.ofNat 32 v ^^^ BitVec.ofNat 32 m = BitVec.ofNat 32 (v ^^^ m)
          apply BitVec.eq_of_getLsbD_eq
          intro j hj
          rw [BitVec.getLsbD_xor, BitVec.getLsbD_ofNat, BitVec.getLsbD_ofNat, BitVec.getLsbD_ofNat, Nat.testBit_xor]
          simp [hj]
        have lt : v ^^^ m < 256 := Nat.xor_lt_two_pow (n := 8) hv hm'
        rw [e1, nI_l (by omega), ← Nat.testBit_xor]
        unfold ib
        show (BitVec.ofNat 64 (v ^^^ m)).getLsbD i = _
        rw [BitVec.getLsbD_ofNat]
        simp [hi]
      by_cases z : x / 8 = r
      · rw [if_pos z, decide_eq_true (show 8 * r ≤ x by omega), Bool.true_and, bt _ (by omega)]
        have ex : x - 8 * r = x % 8 := by omega
        rw [ex, hvb _ (Nat.mod_lt _ (by decide)), h7 _ (by omega), show 8 * r + x % 8 = x by omega]
        cases qg p x <;> cases m.testBit (x % 8) <;> rfl
      · rw [if_neg z]
        by_cases z2 : 8 * r ≤ x
        · rw [decide_eq_true z2, Bool.true_and, bt _ (by omega)]
          have b8 : 8 ≤ x - 8 * r := by omega
          rw [Nat.testBit_lt_two_pow (Nat.lt_of_lt_of_le hv (show 256 ≤ 2 ^ (x - 8 * r) from Nat.pow_le_pow_right (n := 2) (by decide) b8)), Nat.testBit_lt_two_pow (Nat.lt_of_lt_of_le hm' (show 256 ≤ 2 ^ (x - 8 * r) from Nat.pow_le_pow_right (n := 2) (by decide) b8))]
          simp
        · rw [decide_eq_false z2, Bool.false_and, Bool.xor_false]
