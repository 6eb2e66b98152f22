/-! a paper: folds made, their kinds, holes, colours, target -/
abbrev Pap : Type := Nat × (Nat → Nat) × (Nat → Bool) × (Nat → Int32) × (Nat → Bool)
def qn (p : Pap) : Nat := p.1
def qf (p : Pap) : Nat → Nat := p.2.1
def qp (p : Pap) : Nat → Bool := p.2.2.1
def qc (p : Pap) : Nat → Int32 := p.2.2.2.1
def qg (p : Pap) : Nat → Bool := p.2.2.2.2
abbrev qw (p : Pap) : Nat := fp_w (qf p) (qn p)
abbrev qh (p : Pap) : Nat := fp_h (qf p) (qn p)
abbrev qu (p : Pap) (c r i : Nat) : Nat := fp_us (qf p) (qn p) c r i
/-- a sheet of the class holds a paper -/
def pC (pat goal : Int64) (col : Nat → Int32) (made mac : Int32) (ks : Nat → Int32) (p : Pap) : Prop :=
  fp_ok (qf p) (qn p) ∧ made = nI (qn p) ∧ mac = nI (fp_pa (qf p) (qn p)) ∧ (∀ i, i < qn p → ks i = nI (qf p i)) ∧ (∀ c, c < 64 → ib pat c = qp p c) ∧ (∀ j, j < 128 → col j = qc p j) ∧ (∀ c, c < 64 → ib goal c = qg p c)
def qFold (p : Pap) (f : Nat) : Pap := (qn p + 1, fun i => if i = qn p then f else qf p i, qp p, qc p, qg p)
def qBack (p : Pap) : Pap := (qn p - 1, qf p, qp p, qc p, qg p)
def qOpen (p : Pap) : Pap := (0, qf p, qp p, qc p, qg p)
def qCan (p : Pap) (f : Nat) : Prop := 1 < if f < 2 then qw p else qh p
theorem fp_pa_congr {f g : Nat → Nat} : ∀ {n : Nat}, (∀ i, i < n → f i = g i) → fp_pa f n = fp_pa g n
  | 0, _ => rfl
  | n + 1, h => by
    unfold fp_pa
    rw [fp_pa_congr (fun i hi => h i (by omega)), h n (by omega)]
theorem fp_us_congr {f g : Nat → Nat} : ∀ {n : Nat}, (∀ i, i < n → f i = g i) → ∀ c r i, fp_us f n c r i = fp_us g n c r i
  | 0, _ => fun _ _ _ => rfl
  | n + 1, h => fun c r i => by
    unfold fp_us fp_w fp_h
    dsimp only
    rw [fp_pa_congr h, h n (by omega), fp_us_congr (fun i hi => h i (by omega))]
theorem pC_ok {pat goal : Int64} {col : Nat → Int32} {made mac : Int32} {ks : Nat → Int32} {p : Pap} (h : pC pat goal col made mac ks p) : fp_ok (qf p) (qn p) := h.1
theorem qFold_ok {p : Pap} {f : Nat} (ok : fp_ok (qf p) (qn p)) (hf : f < 4) (hc : qCan p f) : fp_ok (qf (qFold p f)) (qn (qFold p f)) := by
  obtain ⟨h0, h1, h2⟩ := ok
  have hle := fp_pa_le (qf p) (qn p)
  have e : fp_pa (qf (qFold p f)) (qn p) = fp_pa (qf p) (qn p) := fp_pa_congr (fun i hi => if_neg (by omega))
  have e2 : fp_pa (qf (qFold p f)) (qn (qFold p f)) = fp_pa (qf p) (qn p) + if f < 2 then 1 else 0 := by
    show fp_pa (qf (qFold p f)) (qn p + 1) = _
    rw [show fp_pa (qf (qFold p f)) (qn p + 1) = fp_pa (qf (qFold p f)) (qn p) + if qf (qFold p f) (qn p) < 2 then 1 else 0 from rfl, e, show qf (qFold p f) (qn p) = f from if_pos rfl]
  have key : ∀ a, a ≤ 3 → 1 < 8 / 2 ^ a → a ≤ 2 := by decide
  refine ⟨?_, ?_, ?_⟩
  · intro i hi
    show (if i = qn p then f else qf p i) < 4
    have hi' : i < qn p + 1 := hi
    split
    · exact hf
    · exact h0 i (by omega)
  · rw [e2]
    unfold qCan at hc
    split at hc
    · rename_i z
      rw [if_pos z]
      have := key _ h1 hc
      omega
    · rename_i z
      rw [if_neg z]
      omega
  · rw [e2]
    show qn p + 1 - _ ≤ 3
    unfold qCan at hc
    split at hc
    · rename_i z
      rw [if_pos z]
      omega
    · rename_i z
      rw [if_neg z]
      have := key _ h2 hc
      omega
theorem pu_addFold {made mac : Int32} {ks : Nat → Int32} {post : Int32 → Int32 → (Nat → Int32) → Prop} (n a f : Nat) (hn6 : n < 6) (hf : f < 4) (hn : made = nI n) (hm : mac = nI a)
    (h : post (nI (n + 1)) (nI (a + if f < 2 then 1 else 0)) (upd ks n (nI f))) : wp_X0_addFold made mac ks (nI f) post := by
  subst hn hm
  refine br_f (nI_pos (by omega)) ?_
  refine pk_le 6 n (fun z => absurd z (by omega)) (fun _ => ⟨vp_in_nI hn6 (by omega), ?_⟩)
  refine pu_isAcross f (by omega) ?_
  intro P hP
  refine pu_sel (hP _ ?_)
  rw [pu_i1, nI_clamp (by omega)]
  have e : (if decide (f < 2) = true then (1 : Int32) else 0) = nI (if f < 2 then 1 else 0) := by
    by_cases z : f < 2 <;> simp [z] <;> rfl
  rw [e, nI_add]
  exact h
theorem pu_makeFold {pat goal : Int64} {col : Nat → Int32} {made mac : Int32} {ks : Nat → Int32} {x : Int32} {post : Int32 → Int32 → Int32 → (Nat → Int32) → Prop} (p : Pap) (hp : pC pat goal col made mac ks p)
    (hbad : (∀ f, f < 4 → x ≠ nI f) → post (-2) made mac ks) (hno : ∀ f, f < 4 → x = nI f → ¬ qCan p f → post (-3) made mac ks)
    (hyes : ∀ f, f < 4 → x = nI f → qCan p f → ∀ made' mac' ks', pC pat goal col made' mac' ks' (qFold p f) → post (nI (2 ^ (qn p + 1))) made' mac' ks') : wp_X3_makeFold made mac ks x post := by
  have hp0 := hp
  obtain ⟨ok, hn, hm, hk, h5, h6, h7⟩ := hp
  intro P9 hP9
  rcases pu_rng x 4 (by omega) with z | z | ⟨f, hf, rfl⟩
  · exact br_t z (hP9 (hbad (fun j hj e => by subst e; exact nI_pos (by omega) z)))
  · refine br_f (pu_ng (by omega) z) ?_
    refine br_f (fun q => ?_) (hP9 (hbad (fun j hj e => by subst e; exact nI_ge hj (by omega) z)))
    have h1 := Int32.lt_iff_toInt_lt.mp q
    have h2 := Int32.le_iff_toInt_le.mp z
    have h3 : (4 : Int32).toInt = 4 := by decide
    have h4 : (nI 4).toInt = 4 := by decide
    omega
  · refine br_f (nI_pos (by omega)) ?_
    refine pk_lt f 4 (fun _ => ?_) (fun z => absurd z (by omega))
    refine pu_isAcross f (by omega) ?_
    intro P36 hP36
    have fin : ∀ t : Nat, t < 2 ^ 31 → (qCan p f ↔ 2 ≤ t) → P36 (nI t) := by
      intro t ht hct
      apply hP36
      refine pk_le 2 t (fun z => ?_) (fun z => ?_)
      · have hc := hct.mpr z
        have okf := qFold_ok ok hf hc
        have h6' := fp_ok_6 okf
        have h66 : qn p + 1 ≤ 6 := h6'
        refine pu_addFold (qn p) _ f (by omega) hf hn hm ?_
        refine pu_layers (qn p + 1) h66 rfl ?_
        refine hyes f hf rfl hc _ _ _ ⟨okf, rfl, ?_, ?_, h5, h6, h7⟩
        · congr 1
          show _ = fp_pa (qf (qFold p f)) (qn p) + if qf (qFold p f) (qn p) < 2 then 1 else 0
          rw [show qf (qFold p f) (qn p) = f from if_pos rfl]
          congr 1
          exact (fp_pa_congr (fun i hi => if_neg (by omega))).symm
        · intro i hi
          have hi' : i < qn p + 1 := hi
          show upd ks (qn p) (nI f) i = nI (if i = qn p then f else qf p i)
          rw [pu_upd]
          split
          · rfl
          · exact hk i (by omega)
      · exact hno f hf rfl (fun q => absurd (hct.mp q) (by omega))
    have hwb := fp_w_b _ _ ok
    have hhb := fp_h_b _ _ ok
    refine pu_br (fun z => ?_) (fun z => ?_)
    · have zz : ¬ f < 2 := of_decide_eq_false z
      refine pu_rows _ _ ok hn hm (fin _ (by omega) ?_)
      unfold qCan
      rw [if_neg zz]
      exact Iff.rfl
    · have zz : f < 2 := of_decide_eq_true z
      refine pu_columns _ _ ok hm (fin _ (by omega) ?_)
      unfold qCan
      rw [if_pos zz]
      exact Iff.rfl
theorem qBack_ok {p : Pap} (ok : fp_ok (qf p) (qn p)) : fp_ok (qf (qBack p)) (qn (qBack p)) := fp_ok_le (qn p) (by show qn p - 1 ≤ qn p; omega) ok
theorem pu_takeFoldBack {pat goal : Int64} {col : Nat → Int32} {made mac : Int32} {ks : Nat → Int32} {post : Int32 → Int32 → Int32 → Prop} (p : Pap) (hp : pC pat goal col made mac ks p)
    (hno : qn p = 0 → post (-3) made mac) (hyes : 0 < qn p → ∀ made' mac', pC pat goal col made' mac' ks (qBack p) → post (nI (qf p (qn p - 1))) made' mac') : wp_X3_takeFoldBack made mac ks post := by
  obtain ⟨ok, hn, hm, hk, h5, h6, h7⟩ := hp
  have h66 := fp_ok_6 ok
  subst hn hm
  refine pk_le (qn p) 0 (fun z => hno (by omega)) (fun z => ?_)
  obtain ⟨m, hm⟩ : ∃ m, qn p = m + 1 := ⟨qn p - 1, by omega⟩
  have hk4 := ok.1 m (by omega)
  unfold wp_X0_takeLatestBack
  rw [show nI (qn p) - (1 : Int32) = nI m by rw [hm]; exact nI_pred m]
  refine pu_kindOf m (by omega) ?_
  rw [hk m (by omega)]
  refine pu_isAcross _ (by omega) ?_
  intro P hP
  refine pu_sel (hP _ ?_)
  have e : (if decide (qf p m < 2) = true then (1 : Int32) else 0) = nI (if qf p m < 2 then 1 else 0) := by
    by_cases z : qf p m < 2 <;> simp [z] <;> rfl
  have e2 : fp_pa (qf p) (qn p) = fp_pa (qf p) m + if qf p m < 2 then 1 else 0 := by rw [hm]; rfl
  rw [e, e2, pk_sub (by omega)]
  have hy := hyes z (nI m) (nI (fp_pa (qf p) m + (if qf p m < 2 then 1 else 0) - if qf p m < 2 then 1 else 0))
  rw [show qn p - 1 = m by omega] at hy
  refine hy ⟨qBack_ok ok, ?_, ?_, ?_, h5, h6, h7⟩
  · show nI m = nI (qn p - 1)
    rw [hm]; rfl
  · show _ = nI (fp_pa (qf p) (qn p - 1))
    rw [hm]
    congr 1
    show _ = fp_pa (qf p) m
    omega
  · intro i hi
    have : i < qn p - 1 := hi
    exact hk i (by omega)
theorem pu_takeAllBack {pat goal : Int64} {col : Nat → Int32} {made mac : Int32} {ks : Nat → Int32} {post : Int32 → Int32 → Int32 → Prop} (p : Pap) (hp : pC pat goal col made mac ks p)
    (hyes : ∀ made' mac', pC pat goal col made' mac' ks (qOpen p) → post (nI (qn p)) made' mac') : wp_X3_takeAllFoldsBack made mac post := by
  obtain ⟨ok, hn, hm, hk, h5, h6, h7⟩ := hp
  subst hn
  show post (nI (qn p)) (0 : Int32) (0 : Int32)
  exact hyes 0 0 ⟨fp_ok_le (qn p) (by show 0 ≤ _; omega) ok, rfl, rfl, fun i hi => absurd hi (by show ¬ i < 0; omega), h5, h6, h7⟩
theorem pu_cpy {f g : Nat → Int32} {n j : Nat} (h : j < n) : va_cpy f g 0 0 n j = f j := by
  unfold va_cpy
  rw [if_pos ⟨Nat.zero_le _, by omega⟩]
  congr 1
  omega
theorem pu_becomeLike {pat goal : Int64} {col : Nat → Int32} {made mac : Int32} {ks : Nat → Int32} {opat ogoal : Int64} {ocol : Nat → Int32} {omade omac : Int32} {oks : Nat → Int32} {post : Int64 → Int64 → (Nat → Int32) → Int32 → Int32 → (Nat → Int32) → Prop} (p : Pap) (hp : pC opat ogoal ocol omade omac oks p)
    (h : ∀ pat' goal' col' made' mac' ks', pC pat' goal' col' made' mac' ks' p → post pat' goal' col' made' mac' ks') : wp_X3_becomeLike pat goal col made mac ks opat ogoal ocol omade omac oks post := by
  obtain ⟨ok, hn, hm, hk, h5, h6, h7⟩ := hp
  have h66 := fp_ok_6 ok
  exact h _ _ _ _ _ _ ⟨ok, hn, hm, fun i hi => by rw [pu_cpy (by omega)]; exact hk i hi, h5, fun j hj => by rw [pu_cpy hj]; exact h6 j hj, h7⟩
theorem pu_becomeLike0 {pat goal : Int64} {col : Nat → Int32} {made mac : Int32} {ks : Nat → Int32} {opat ogoal : Int64} {ocol : Nat → Int32} {omade omac : Int32} {oks : Nat → Int32} {post : Int64 → Int64 → (Nat → Int32) → Int32 → Int32 → (Nat → Int32) → Prop}
    (h : ∀ pat' goal' col' made' mac' ks', post pat' goal' col' made' mac' ks') : wp_X3_becomeLike pat goal col made mac ks opat ogoal ocol omade omac oks post := h _ _ _ _ _ _
theorem pu_colourOf {col : Nat → Int32} {post : Int32 → Prop} (j : Nat) (hj : j < 128) (h : post (col j)) : wp_X3_colourOf col (nI j) post := by
  intro P hP
  refine br_f (nI_pos (by omega)) ?_
  refine pk_le 128 j (fun z => absurd z (by omega)) (fun _ => ⟨vp_in_nI hj (by omega), ?_⟩)
  rw [nI_clamp (by omega)]
  exact h
theorem pu_setColour {col : Nat → Int32} {v : Int32} {post : (Nat → Int32) → Prop} (j : Nat) (hj : j < 128) (h : post (upd col j v)) : wp_X3_setColour col (nI j) v post := by
  refine br_f (nI_pos (by omega)) ?_
  refine pk_le 128 j (fun z => absurd z (by omega)) (fun _ => ⟨vp_in_nI hj (by omega), ?_⟩)
  rw [nI_clamp (by omega)]
  exact h
/-- the cells of the d uppermost layers of a field -/
def fp_in (kf : Nat → Nat) (n c r : Nat) : Nat → Nat → Bool
  | 0, _ => false
  | d + 1, x => fp_in kf n c r d x || decide (fp_us kf n c r d / 2 = x)
theorem pu_uppermostCells {made mac : Int32} {ks : Nat → Int32} {post : Int64 → Prop} (kf : Nat → Nat) (n : Nat) (ok : fp_ok kf n) (hn : made = nI n) (hm : mac = nI (fp_pa kf n)) (hk : ∀ i, i < n → ks i = nI (kf i)) (c r d : Nat) (hc : c < fp_w kf n) (hr : r < fp_h kf n) (hd : d ≤ 2 ^ n)
    (h : ∀ s : Int64, (∀ x, x < 64 → ib s x = fp_in kf n c r d x) → post s) : wp_X0_uppermostCells made mac ks (nI c) (nI r) (nI d) post := by
  intro P hP
  have hL := fp_L_b (fp_ok_6 ok)
  have key : ∀ k i (s : Int64), i + k = d → (∀ x, x < 64 → ib s x = fp_in kf n c r i x) → P s (nI i) := by
    intro k
    induction k with
    | zero =>
      intro i s hi hs
      apply hP
      have : i = d := by omega
      subst this
      exact br_t (nI_le (Nat.le_refl _) (by omega)) (h s hs)
    | succ k ih =>
      intro i s hi hs
      apply hP
      refine br_f (nI_ge (by omega) (by omega)) ?_
      have hlt := fp_us_lt kf n c r i ok hc hr (by omega)
      refine pu_upperSide kf n ok hn hm hk c r i hc hr (by omega) ?_
      refine pu_cellOf _ (by omega) ?_
      intro w hw
      rw [pu_i1]
      refine ih (i + 1) w (by omega) (fun x hx => ?_)
      rw [hw, ib_or, hs x hx, ib_bit (by omega) hx]
      show _ = (fp_in kf n c r i x || decide (fp_us kf n c r i / 2 = x))
      congr 1
      simp [eq_comm]
  exact key d 0 0 (by omega) (fun x _ => ib_0 x)
