def wp_X3_becomeLike (pat : Int64) (goal : Int64) (col : Nat → Int32) (made : Int32) (mac : Int32) (ks : Nat → Int32) (opat : Int64) (ogoal : Int64) (ocol : Nat → Int32) (omade : Int32) (omac : Int32) (oks : Nat → Int32) (post : Int64 → Int64 → (Nat → Int32) → Int32 → Int32 → (Nat → Int32) → Prop) : Prop :=
  wp_X0_becomeLike made mac ks omade omac oks (fun made__1 mac__2 ks__3 => post opat ogoal (va_cpy ocol col 0 0 128) made__1 mac__2 ks__3)
def wp_X3_colourOf (col : Nat → Int32) (x1 : Int32) (post : Int32 → Prop) : Prop :=
  ∀ (P22 : Prop), ((post (0 : Int32)) → P22 ) → ((x1 < 0) → P22) ∧ ((¬ x1 < 0) → (((128 : Int32) ≤ x1) → P22) ∧ ((¬ (128 : Int32) ≤ x1) → vp_in x1 128 ∧ (post (col (x1).toNatClampNeg))))
def wp_X3_setColour (col : Nat → Int32) (x1 : Int32) (x2 : Int32) (post : (Nat → Int32) → Prop) : Prop :=
  ((x1 < 0) → post col) ∧ ((¬ x1 < 0) → (((128 : Int32) ≤ x1) → post col) ∧ ((¬ (128 : Int32) ≤ x1) → vp_in x1 128 ∧ (post (upd col (x1).toNatClampNeg x2))))
def wp_X3_colouredSides (col : Nat → Int32) (post : Int32 → Prop) : Prop :=
  ∀ (P4 : Int32 → Int32 → Prop), (∀ (v1_1 : Int32) (v2_2 : Int32), ((((128 : Int32) ≤ v2_2) → post v1_1) ∧ ((¬ (128 : Int32) ≤ v2_2) → vp_in v2_2 128 ∧ (∀ (P28 : Int32 → Prop), (∀ (t_3 : Int32), (∀ w1_4 : Int32, w1_4 = (v1_1 + t_3) → P4 w1_4 (v2_2 + (1 : Int32))) → P28 t_3) → (((col (v2_2).toNatClampNeg) = 0) → P28 (0 : Int32)) ∧ ((¬ (col (v2_2).toNatClampNeg) = 0) → P28 (1 : Int32))))) → P4 v1_1 v2_2) → P4 (0 : Int32) (0 : Int32)
def wp_X3_makeFold (made : Int32) (mac : Int32) (ks : Nat → Int32) (x1 : Int32) (post : Int32 → Int32 → Int32 → (Nat → Int32) → Prop) : Prop :=
  ∀ (P9 : Prop), ((post (-2 : Int32) made mac ks) → P9 ) → ((x1 < 0) → P9) ∧ ((¬ x1 < 0) → ((x1 < (4 : Int32)) → wp_X0_isAcross x1 (fun r_1 => ∀ (P36 : Int32 → Prop), (∀ (t_2 : Int32), ((((2 : Int32) ≤ t_2) → wp_X0_addFold made mac ks x1 (fun made__3 mac__4 ks__5 => wp_X0_layers made__3 (fun r_6 => post r_6 made__3 mac__4 ks__5))) ∧ ((¬ (2 : Int32) ≤ t_2) → post (-3 : Int32) made mac ks)) → P36 t_2) → ((r_1 = 0) → wp_X0_rows made mac (fun r_7 => P36 r_7)) ∧ ((¬ r_1 = 0) → wp_X0_columns mac (fun r_8 => P36 r_8)))) ∧ ((¬ x1 < (4 : Int32)) → P9))
def wp_X3_takeFoldBack (made : Int32) (mac : Int32) (ks : Nat → Int32) (post : Int32 → Int32 → Int32 → Prop) : Prop :=
  ((made ≤ 0) → post (-3 : Int32) made mac) ∧ ((¬ made ≤ 0) → wp_X0_takeLatestBack made mac ks (fun r_1 made__2 mac__3 => post r_1 made__2 mac__3))
def wp_X3_takeAllFoldsBack (made : Int32) (mac : Int32) (post : Int32 → Int32 → Int32 → Prop) : Prop :=
  wp_X0_takeAllBack made mac (fun made__1 mac__2 => post made made__1 mac__2)
def wp_X3_makeHoles (pat : Int64) (made : Int32) (mac : Int32) (ks : Nat → Int32) (x1 : Int32) (x2 : Int32) (x3 : Int32) (post : Int32 → Int64 → Prop) : Prop :=
  wp_X0_hasField made mac x1 x2 (fun r_1 => ((¬ r_1 = 0) → ∀ (P30 : Prop), ((post (-2 : Int32) pat) → P30 ) → ((x3 < (1 : Int32)) → P30) ∧ ((¬ x3 < (1 : Int32)) → wp_X0_layers made (fun r_2 => ((x3 ≤ r_2) → wp_J13_bitCount_95d88 pat (fun r_3 => wp_X0_uppermostCells made mac ks x1 x2 x3 (fun r_4 => wp_J13_bitCount_95d88 (pat ||| r_4) (fun r_5 => post (r_5 - r_3) (pat ||| r_4))))) ∧ ((¬ x3 ≤ r_2) → P30)))) ∧ ((r_1 = 0) → post (-1 : Int32) pat))
def wp_X3_uppermostWhole (pat : Int64) (made : Int32) (mac : Int32) (ks : Nat → Int32) (x1 : Int32) (x2 : Int32) (post : Int32 → Prop) : Prop :=
  wp_X0_layers made (fun r_1 => ∀ (P11 : Int32 → Prop), (∀ (v4_2 : Int32), (((r_1 ≤ v4_2) → post (-6 : Int32)) ∧ ((¬ r_1 ≤ v4_2) → wp_X0_upperSide made mac ks x1 x2 v4_2 (fun r_3 => wp_X5_cellOf r_3 (fun r_4 => wp_X5_hasCell pat r_4 (fun r_5 => ((¬ r_5 = 0) → P11 (v4_2 + (1 : Int32))) ∧ ((r_5 = 0) → post r_3)))))) → P11 v4_2) → P11 (0 : Int32))
def wp_X3_dropInk (pat : Int64) (col : Nat → Int32) (made : Int32) (mac : Int32) (ks : Nat → Int32) (x1 : Int32) (x2 : Int32) (x3 : Int32) (post : Int32 → (Nat → Int32) → Prop) : Prop :=
  wp_X0_hasField made mac x1 x2 (fun r_1 => ((¬ r_1 = 0) → ∀ (P24 : Prop), ((post (-2 : Int32) col) → P24 ) → ((x3 < (1 : Int32)) → P24) ∧ ((¬ x3 < (1 : Int32)) → ((x3 ≤ (5 : Int32)) → wp_X3_uppermostWhole pat made mac ks x1 x2 (fun r_2 => ((¬ r_2 = (-6 : Int32)) → wp_X3_setColour col r_2 x3 (fun col__3 => wp_X5_cellOf r_2 (fun r_4 => post r_4 col__3))) ∧ ((r_2 = (-6 : Int32)) → post (-6 : Int32) col))) ∧ ((¬ x3 ≤ (5 : Int32)) → P24))) ∧ ((r_1 = 0) → post (-1 : Int32) col))
def wp_X3_mendTop (pat : Int64) (col : Nat → Int32) (made : Int32) (mac : Int32) (ks : Nat → Int32) (x1 : Int32) (x2 : Int32) (post : Int32 → Int64 → (Nat → Int32) → Prop) : Prop :=
  wp_X0_hasField made mac x1 x2 (fun r_1 => ((¬ r_1 = 0) → wp_X0_upperSide made mac ks x1 x2 (0 : Int32) (fun r_2 => wp_X5_cellOf r_2 (fun r_3 => wp_X5_hasCell pat r_3 (fun r_4 => ((¬ r_4 = 0) → wp_X3_setColour col ((2 : Int32) * r_3) (0 : Int32) (fun col__5 => wp_X3_setColour col__5 (((2 : Int32) * r_3) + (1 : Int32)) (0 : Int32) (fun col__6 => post r_3 (pat &&& (((1 : Int64) <<< ((r_3).toInt64 &&& (63 : Int64))) ^^^ (-1 : Int64))) col__6))) ∧ ((r_4 = 0) → post (-3 : Int32) pat col))))) ∧ ((r_1 = 0) → post (-1 : Int32) pat col))
def wp_X3_changeGoal (goal : Int64) (x1 : Int32) (x2 : Int32) (post : Int32 → Int64 → Prop) : Prop :=
  wp_X5_isRow x1 (fun r_1 => ((¬ r_1 = 0) → ∀ (P20 : Prop), ((post (-2 : Int32) goal) → P20 ) → ((x2 < 0) → P20) ∧ ((¬ x2 < 0) → ((x2 ≤ (255 : Int32)) → wp_X5_maskOfRow goal x1 (fun r_2 => post r_2 (goal ^^^ ((((r_2 ^^^ x2)).toInt64) <<< ((((8 : Int32) * x1)).toInt64 &&& (63 : Int64)))))) ∧ ((¬ x2 ≤ (255 : Int32)) → P20))) ∧ ((r_1 = 0) → post (-1 : Int32) goal))
set_option maxRecDepth 20000 in
theorem kwX3_becomeLike_12 : Cond.fieldLink RX3 12 "PunchedFolds$Sheet" "folding" "LPunchedFolds$Folding;" ∈ wsX3_becomeLike := by decide +kernel
set_option maxRecDepth 20000 in
theorem iwX3_becomeLike_X3 : ∀ w ∈ wsX30, w ∈ wsX3_becomeLike := by decide +kernel
set_option maxRecDepth 20000 in
theorem kwX3_becomeLike_18 : Cond.fieldLink RX3 18 "PunchedFolds$Sheet" "colours" "[I" ∈ wsX3_becomeLike := by decide +kernel
set_option maxRecDepth 20000 in
theorem kwX3_becomeLike_33 : Cond.methodLink RX3 33 arraycopyName ∈ wsX3_becomeLike := by decide +kernel
set_option maxRecDepth 20000 in
theorem kwX3_becomeLike_nat : Cond.native arraycopyName ∈ wsX3_becomeLike := by decide +kernel
set_option maxRecDepth 20000 in
theorem kwX3_becomeLike_stat : Cond.static arraycopyName ∈ wsX3_becomeLike := by decide +kernel
set_option maxRecDepth 20000 in
theorem kwX3_becomeLike_sys : Cond.initialized "java/lang/System" ∈ wsX3_becomeLike := by decide +kernel
set_option maxRecDepth 20000 in
theorem kwX3_becomeLike_22 : Cond.fieldLink RX3 22 "PunchedFolds$Sheet" "pattern" "J" ∈ wsX3_becomeLike := by decide +kernel
set_option maxRecDepth 20000 in
theorem kwX3_becomeLike_26 : Cond.fieldLink RX3 26 "PunchedFolds$Sheet" "goal" "J" ∈ wsX3_becomeLike := by decide +kernel
set_option maxHeartbeats 4000000 in
set_option maxRecDepth 100000 in
theorem c_X3_becomeLike (l : Launch) (dC : Nat → ClassId) (dI : Nat → Nat → Nat) (cI cC cS : ClassId) (aS : Nat) (aC : Nat) (aF : Nat) (aK : Nat) (oaS : Nat) (oaC : Nat) (oaF : Nat) (oaK : Nat) (sz : Nat) (pat : Int64) (goal : Int64) (col : Nat → Int32) (made : Int32) (mac : Int32) (ks : Nat → Int32) (opat : Int64) (ogoal : Int64) (ocol : Nat → Int32) (omade : Int32) (omac : Int32) (oks : Nat → Int32) {post : Int64 → Int64 → (Nat → Int32) → Int32 → Int32 → (Nat → Int32) → Prop} (hq : wp_X3_becomeLike pat goal col made mac ks opat ogoal ocol omade omac oks post) : Met l yX3_becomeLike wsX3_becomeLike ({ frames := 2, cells := 0, slots := 0, locals := 45 } : Room) (gn_Pre (dC, dI) cI cC cS [.ref aS, .ref oaS] sz [(aS, .inr (2, [.ref aF, .ref aC, .long pat, .long goal])), (aC, .inl (cI, 128, .inl col)), (aF, .inr (0, [.ref aK, .int made, .int mac])), (aK, .inl (cI, 6, .inl ks)), (oaS, .inr (2, [.ref oaF, .ref oaC, .long opat, .long ogoal])), (oaC, .inl (cI, 128, .inl ocol)), (oaF, .inr (0, [.ref oaK, .int omade, .int omac])), (oaK, .inl (cI, 6, .inl oks))]) (va_Qv (fun (u : Int64 × Int64 × (Nat → Int32) × Int32 × Int32 × (Nat → Int32)) => post u.1 u.2.1 u.2.2.1 u.2.2.2.1 u.2.2.2.2.1 u.2.2.2.2.2) (fun (u : Int64 × Int64 × (Nat → Int32) × Int32 × Int32 × (Nat → Int32)) t => va_P (dC, dI) vwCl [(aS, .inr (2, [.ref aF, .ref aC, .long u.1, .long u.2.1])), (aC, .inl (cI, 128, .inl u.2.2.1)), (aF, .inr (0, [.ref aK, .int u.2.2.2.1, .int u.2.2.2.2.1])), (aK, .inl (cI, 6, .inl u.2.2.2.2.2)), (oaS, .inr (2, [.ref oaF, .ref oaC, .long opat, .long ogoal])), (oaC, .inl (cI, 128, .inl ocol)), (oaF, .inr (0, [.ref oaK, .int omade, .int omac])), (oaK, .inl (cI, 6, .inl oks))] t.heap ∧ va_K (dC, dI) vwCl (gn_tys cI cC cS) t ∧ va_D (va_A [(aS, .inr (2, [.ref aF, .ref aC, .long pat, .long goal])), (aC, .inl (cI, 128, .inl col)), (aF, .inr (0, [.ref aK, .int made, .int mac])), (aK, .inl (cI, 6, .inl ks)), (oaS, .inr (2, [.ref oaF, .ref oaC, .long opat, .long ogoal])), (oaC, .inl (cI, 128, .inl ocol)), (oaF, .inr (0, [.ref oaK, .int omade, .int omac])), (oaK, .inl (cI, 6, .inl oks))] sz) [(aS, .inr (2, [.ref aF, .ref aC, .long u.1, .long u.2.1])), (aC, .inl (cI, 128, .inl u.2.2.1)), (aF, .inr (0, [.ref aK, .int u.2.2.2.1, .int u.2.2.2.2.1])), (aK, .inl (cI, 6, .inl u.2.2.2.2.2)), (oaS, .inr (2, [.ref oaF, .ref oaC, .long opat, .long ogoal])), (oaC, .inl (cI, 128, .inl ocol)), (oaF, .inr (0, [.ref oaK, .int omade, .int omac])), (oaK, .inl (cI, 6, .inl oks))]) (va_A [(aS, .inr (2, [.ref aF, .ref aC, .long pat, .long goal])), (aC, .inl (cI, 128, .inl col)), (aF, .inr (0, [.ref aK, .int made, .int mac])), (aK, .inl (cI, 6, .inl ks)), (oaS, .inr (2, [.ref oaF, .ref oaC, .long opat, .long ogoal])), (oaC, .inl (cI, 128, .inl ocol)), (oaF, .inr (0, [.ref oaK, .int omade, .int omac])), (oaK, .inl (cI, 6, .inl oks))] sz)) 0 0 (va_A [(aS, .inr (2, [.ref aF, .ref aC, .long pat, .long goal])), (aC, .inl (cI, 128, .inl col)), (aF, .inr (0, [.ref aK, .int made, .int mac])), (aK, .inl (cI, 6, .inl ks)), (oaS, .inr (2, [.ref oaF, .ref oaC, .long opat, .long ogoal])), (oaC, .inl (cI, 128, .inl ocol)), (oaF, .inr (0, [.ref oaK, .int omade, .int omac])), (oaK, .inl (cI, 6, .inl oks))] sz) := by
  unfold wp_X3_becomeLike at hq
  refine Met.ofW (cc := cX3_becomeLike) (maxL := 2) (ret := none) (by decide) rfl ?_
  intro p e s m args below meth c s₁ B hml hv
  obtain ⟨rfl, hsz, hP, hK, hN, hD0⟩ := hv
  have hx := B.exec
  have hb := B.bytes
  have hr := B.returns
  have hts := atoms_spec (ws := wsX3_becomeLike) B.pre
  have hown : s.vm.findClass RX3 = some m.cls := findClass_of_methodNamed B.named
  have hlocks := B.notSynchronized
  subst hsz
  have hD := hD0.self (sz := s.heap.size)
  generalize hAe : va_A [(aS, .inr (2, [.ref aF, .ref aC, .long pat, .long goal])), (aC, .inl (cI, 128, .inl col)), (aF, .inr (0, [.ref aK, .int made, .int mac])), (aK, .inl (cI, 6, .inl ks)), (oaS, .inr (2, [.ref oaF, .ref oaC, .long opat, .long ogoal])), (oaC, .inl (cI, 128, .inl ocol)), (oaF, .inr (0, [.ref oaK, .int omade, .int omac])), (oaK, .inl (cI, 6, .inl oks))] s.heap.size = A at hD ⊢
  have hA : ∀ q : Nat, s.heap.size ≤ q → A q := fun q h => by rw [← hAe]; exact Or.inr h
  have hS : va_S A s.heap s.heap [] := va_S.rf
  have hl := lv_entry ([.ref aS, .ref oaS] : List Value) (n := 2) (Nat.le_of_ble_eq_true rfl)
  rw [lg_entry_eq]
  generalize (lg_sl ([.ref aS, .ref oaS] : List Value) ++ List.replicate (2 - (lg_sl ([.ref aS, .ref oaS] : List Value)).length) Slot.unset).toArray = ls at hl ⊢
  have hl : lv_has ls 2 [(0, .ref aS), (1, .ref oaS)] := hl
  refine gn_Q (hret := fun Q => ∀ (pc : Nat) (ls : Array Slot) (H : Heap) (locs : List Loc) (m_pat : Int64) (m_goal : Int64) (m_col : Nat → Int32) (m_made : Int32) (m_mac : Int32) (m_ks : Nat → Int32), decode cX3_becomeLike pc = .ok (.return_, 1) → va_P (dC, dI) vwCl [(aS, .inr (2, [.ref aF, .ref aC, .long m_pat, .long m_goal])), (aC, .inl (cI, 128, .inl m_col)), (aF, .inr (0, [.ref aK, .int m_made, .int m_mac])), (aK, .inl (cI, 6, .inl m_ks)), (oaS, .inr (2, [.ref oaF, .ref oaC, .long opat, .long ogoal])), (oaC, .inl (cI, 128, .inl ocol)), (oaF, .inr (0, [.ref oaK, .int omade, .int omac])), (oaK, .inl (cI, 6, .inl oks))] H → va_D A [(aS, .inr (2, [.ref aF, .ref aC, .long m_pat, .long m_goal])), (aC, .inl (cI, 128, .inl m_col)), (aF, .inr (0, [.ref aK, .int m_made, .int m_mac])), (aK, .inl (cI, 6, .inl m_ks)), (oaS, .inr (2, [.ref oaF, .ref oaC, .long opat, .long ogoal])), (oaC, .inl (cI, 128, .inl ocol)), (oaF, .inr (0, [.ref oaK, .int omade, .int omac])), (oaK, .inl (cI, 6, .inl oks))] → va_S A s.heap H locs → post m_pat m_goal m_col m_made m_mac m_ks → W p l e ({ frames := 2, cells := 0, slots := 0, locals := 45 } : Room) s m ([.ref aS, .ref oaS] : List Value).toArray below meth c H locs 0 0 Q (F0 m pc ls [])) (fun Q hret => ?_) ?_
  rotate_left
  · intro pc ls H locs m_pat m_goal m_col m_made m_mac m_ks hdg hP hD hS hpost
    exact W.vret hx hb hr (fun t ht hW => ⟨⟨(m_pat, m_goal, m_col, m_made, m_mac, m_ks), rfl, hpost, by rw [ht]; exact hP, va_K.moved hW.alike hK, hD⟩, hS.F ht⟩) hS.2.2 hdg
  refine lv_aload_n hx hb dX3_becomeLike_0 rfl (lv_at hl 0 rfl) ?_
  refine va_get (D := (dC, dI)) (ci := 2) (v := .ref aF) (C := RX3) (T := TX3) (N := 4) hx hb hts iwX3_becomeLike_X3 hown hK hP 0 rfl rfl 0 (by decide) (hts _ kwX3_becomeLike_12) (fun _ h9 => h9) rfl dX3_becomeLike_1 ?_
  refine lv_aload_n hx hb dX3_becomeLike_4 rfl (lv_at hl 1 rfl) ?_
  refine va_get (D := (dC, dI)) (ci := 2) (v := .ref oaF) (C := RX3) (T := TX3) (N := 4) hx hb hts iwX3_becomeLike_X3 hown hK hP 4 rfl rfl 0 (by decide) (hts _ kwX3_becomeLike_12) (fun _ h9 => h9) rfl dX3_becomeLike_5 ?_
  have hPc := hP.sub (ws' := [(aF, .inr (0, [.ref aK, .int made, .int mac])), (aK, .inl (cI, 6, .inl ks)), (oaF, .inr (0, [.ref oaK, .int omade, .int omac])), (oaK, .inl (cI, 6, .inl oks))]) [2, 3, 6, 7] rfl
  have hDc := hD.sub (ws' := [(aF, .inr (0, [.ref aK, .int made, .int mac])), (aK, .inl (cI, 6, .inl ks)), (oaF, .inr (0, [.ref oaK, .int omade, .int omac])), (oaK, .inl (cI, 6, .inl oks))]) [2, 3, 6, 7] (by decide) rfl
  have hFc := va_free (wc := [(aF, .inr (0, [.ref aK, .int made, .int mac])), (aK, .inl (cI, 6, .inl ks)), (oaF, .inr (0, [.ref oaK, .int omade, .int omac])), (oaK, .inl (cI, 6, .inl oks))]) hD hS hA [2, 3, 6, 7] rfl
  refine va_callv (va_runV (As := [.ref oaF]) (rest := []) ⟨hx, hb, hml, hown, hts⟩ (c_X0_becomeLike l dC dI cI cC cS aF aK oaF oaK _ made mac ks omade omac oks hq) (cwV 1 hts gX3_becomeLike_X0_becomeLike rfl rfl rfl (by decide +kernel) ⟨Nat.le_of_ble_eq_true rfl, Nat.le_of_ble_eq_true rfl⟩) (gn_preV hPc hK hN hDc (ci := 0) (q0 := 0) rfl rfl) rfl rfl hl.1 rfl (lv_room (Nat.le_of_ble_eq_true rfl)) dX3_becomeLike_8 ⟨Nat.zero_le _, Nat.zero_le _⟩) hS (fun q _ h => hFc q h) hFc (fun u t H1 locs ht hvm hq hB hz1 hk1 hS => ?_)
  obtain ⟨made__1, mac__2, ks__3⟩ := u
  obtain ⟨hP1, hK1, hD1⟩ := hB
  rw [ht] at hP1
  try dsimp only at hq
  obtain ⟨hP, hD⟩ := va_join (wr := [(aS, .inr (2, [.ref aF, .ref aC, .long pat, .long goal])), (aC, .inl (cI, 128, .inl col)), (oaS, .inr (2, [.ref oaF, .ref oaC, .long opat, .long ogoal])), (oaC, .inl (cI, 128, .inl ocol))]) (w1 := [(aF, .inr (0, [.ref aK, .int made__1, .int mac__2])), (aK, .inl (cI, 6, .inl ks__3)), (oaF, .inr (0, [.ref oaK, .int omade, .int omac])), (oaK, .inl (cI, 6, .inl oks))]) hP hD [2, 3, 6, 7] [0, 1, 4, 5] rfl rfl (by decide) (by decide) hk1 hFc hP1 hD1
  have hP := hP.sub (ws' := [(aS, .inr (2, [.ref aF, .ref aC, .long pat, .long goal])), (aC, .inl (cI, 128, .inl col)), (aF, .inr (0, [.ref aK, .int made__1, .int mac__2])), (aK, .inl (cI, 6, .inl ks__3)), (oaS, .inr (2, [.ref oaF, .ref oaC, .long opat, .long ogoal])), (oaC, .inl (cI, 128, .inl ocol)), (oaF, .inr (0, [.ref oaK, .int omade, .int omac])), (oaK, .inl (cI, 6, .inl oks))]) [0, 1, 4, 5, 2, 3, 6, 7] rfl
  have hD := hD.sub (ws' := [(aS, .inr (2, [.ref aF, .ref aC, .long pat, .long goal])), (aC, .inl (cI, 128, .inl col)), (aF, .inr (0, [.ref aK, .int made__1, .int mac__2])), (aK, .inl (cI, 6, .inl ks__3)), (oaS, .inr (2, [.ref oaF, .ref oaC, .long opat, .long ogoal])), (oaC, .inl (cI, 128, .inl ocol)), (oaF, .inr (0, [.ref oaK, .int omade, .int omac])), (oaK, .inl (cI, 6, .inl oks))]) [0, 1, 4, 5, 2, 3, 6, 7] (by decide) rfl
  generalize H1 = H at hP hS ⊢
  refine lv_aload_n hx hb dX3_becomeLike_11 rfl (lv_at hl 1 rfl) ?_
  refine va_get (D := (dC, dI)) (ci := 2) (v := .ref oaC) (C := RX3) (T := TX3) (N := 4) hx hb hts iwX3_becomeLike_X3 hown hK hP 4 rfl rfl 1 (by decide) (hts _ kwX3_becomeLike_18) (fun _ h9 => h9) rfl dX3_becomeLike_12 ?_
  refine lv_iconst (v := 0) hx hb dX3_becomeLike_15 (by decide) ?_
  refine lv_aload_n hx hb dX3_becomeLike_16 rfl (lv_at hl 0 rfl) ?_
  refine va_get (D := (dC, dI)) (ci := 2) (v := .ref aC) (C := RX3) (T := TX3) (N := 4) hx hb hts iwX3_becomeLike_X3 hown hK hP 0 rfl rfl 1 (by decide) (hts _ kwX3_becomeLike_18) (fun _ h9 => h9) rfl dX3_becomeLike_17 ?_
  refine lv_iconst (v := 0) hx hb dX3_becomeLike_20 (by decide) ?_
  refine lv_aload_n hx hb dX3_becomeLike_21 rfl (lv_at hl 0 rfl) ?_
  refine va_get (D := (dC, dI)) (ci := 2) (v := .ref aC) (C := RX3) (T := TX3) (N := 4) hx hb hts iwX3_becomeLike_X3 hown hK hP 0 rfl rfl 1 (by decide) (hts _ kwX3_becomeLike_18) (fun _ h9 => h9) rfl dX3_becomeLike_22 ?_
  refine va_alen hx hb hK hP 1 0 rfl rfl (v := 128) rfl dX3_becomeLike_25 ?_
  refine va_copyi hx hb (by rw [hml]; exact hl.1.symm) hown (hts _ kwX3_becomeLike_33) (hts _ kwX3_becomeLike_nat) (hts _ kwX3_becomeLike_stat) (hts _ kwX3_becomeLike_sys) hK hP hD hS 5 1 0 0 rfl rfl rfl rfl rfl (by decide) (by decide) (by decide) (by decide) (by decide) (fun _ _ => rfl) (Nat.le_of_ble_eq_true rfl) (Nat.le_of_ble_eq_true rfl) dX3_becomeLike_26 (fun H locs hP hD hS => ?_)
  have hP : va_P (dC, dI) vwCl [(aS, .inr (2, [.ref aF, .ref aC, .long pat, .long goal])), (aC, .inl (cI, 128, .inl (va_cpy ocol col 0 0 128))), (aF, .inr (0, [.ref aK, .int made__1, .int mac__2])), (aK, .inl (cI, 6, .inl ks__3)), (oaS, .inr (2, [.ref oaF, .ref oaC, .long opat, .long ogoal])), (oaC, .inl (cI, 128, .inl ocol)), (oaF, .inr (0, [.ref oaK, .int omade, .int omac])), (oaK, .inl (cI, 6, .inl oks))] H := hP
  have hD : va_D A [(aS, .inr (2, [.ref aF, .ref aC, .long pat, .long goal])), (aC, .inl (cI, 128, .inl (va_cpy ocol col 0 0 128))), (aF, .inr (0, [.ref aK, .int made__1, .int mac__2])), (aK, .inl (cI, 6, .inl ks__3)), (oaS, .inr (2, [.ref oaF, .ref oaC, .long opat, .long ogoal])), (oaC, .inl (cI, 128, .inl ocol)), (oaF, .inr (0, [.ref oaK, .int omade, .int omac])), (oaK, .inl (cI, 6, .inl oks))] := hD
  refine lv_aload_n hx hb dX3_becomeLike_29 rfl (lv_at hl 0 rfl) ?_
  refine lv_aload_n hx hb dX3_becomeLike_30 rfl (lv_at hl 1 rfl) ?_
  refine va_get (D := (dC, dI)) (ci := 2) (v := .long opat) (C := RX3) (T := TX3) (N := 4) hx hb hts iwX3_becomeLike_X3 hown hK hP 4 rfl rfl 2 (by decide) (hts _ kwX3_becomeLike_22) (fun _ h9 => h9) rfl dX3_becomeLike_31 ?_
  refine va_put (D := (dC, dI)) (ci := 2) (v := .long opat) (ty := .long) (C := RX3) (T := TX3) (N := 4) hx hb hts iwX3_becomeLike_X3 tyX3 tyX3_ok nmX3 hown hK hP hD hS 0 rfl rfl 2 (by decide) (hts _ kwX3_becomeLike_22) (fun _ h9 => h9) rfl (by decide +kernel) rfl rfl (Nat.le_of_ble_eq_true rfl) dX3_becomeLike_34 (fun H locs hP hD hS => ?_)
  have hP : va_P (dC, dI) vwCl [(aS, .inr (2, [.ref aF, .ref aC, .long opat, .long goal])), (aC, .inl (cI, 128, .inl (va_cpy ocol col 0 0 128))), (aF, .inr (0, [.ref aK, .int made__1, .int mac__2])), (aK, .inl (cI, 6, .inl ks__3)), (oaS, .inr (2, [.ref oaF, .ref oaC, .long opat, .long ogoal])), (oaC, .inl (cI, 128, .inl ocol)), (oaF, .inr (0, [.ref oaK, .int omade, .int omac])), (oaK, .inl (cI, 6, .inl oks))] H := hP
  have hD : va_D A [(aS, .inr (2, [.ref aF, .ref aC, .long opat, .long goal])), (aC, .inl (cI, 128, .inl (va_cpy ocol col 0 0 128))), (aF, .inr (0, [.ref aK, .int made__1, .int mac__2])), (aK, .inl (cI, 6, .inl ks__3)), (oaS, .inr (2, [.ref oaF, .ref oaC, .long opat, .long ogoal])), (oaC, .inl (cI, 128, .inl ocol)), (oaF, .inr (0, [.ref oaK, .int omade, .int omac])), (oaK, .inl (cI, 6, .inl oks))] := hD
  refine lv_aload_n hx hb dX3_becomeLike_37 rfl (lv_at hl 0 rfl) ?_
  refine lv_aload_n hx hb dX3_becomeLike_38 rfl (lv_at hl 1 rfl) ?_
  refine va_get (D := (dC, dI)) (ci := 2) (v := .long ogoal) (C := RX3) (T := TX3) (N := 4) hx hb hts iwX3_becomeLike_X3 hown hK hP 4 rfl rfl 3 (by decide) (hts _ kwX3_becomeLike_26) (fun _ h9 => h9) rfl dX3_becomeLike_39 ?_
  refine va_put (D := (dC, dI)) (ci := 2) (v := .long ogoal) (ty := .long) (C := RX3) (T := TX3) (N := 4) hx hb hts iwX3_becomeLike_X3 tyX3 tyX3_ok nmX3 hown hK hP hD hS 0 rfl rfl 3 (by decide) (hts _ kwX3_becomeLike_26) (fun _ h9 => h9) rfl (by decide +kernel) rfl rfl (Nat.le_of_ble_eq_true rfl) dX3_becomeLike_42 (fun H locs hP hD hS => ?_)
  have hP : va_P (dC, dI) vwCl [(aS, .inr (2, [.ref aF, .ref aC, .long opat, .long ogoal])), (aC, .inl (cI, 128, .inl (va_cpy ocol col 0 0 128))), (aF, .inr (0, [.ref aK, .int made__1, .int mac__2])), (aK, .inl (cI, 6, .inl ks__3)), (oaS, .inr (2, [.ref oaF, .ref oaC, .long opat, .long ogoal])), (oaC, .inl (cI, 128, .inl ocol)), (oaF, .inr (0, [.ref oaK, .int omade, .int omac])), (oaK, .inl (cI, 6, .inl oks))] H := hP
  have hD : va_D A [(aS, .inr (2, [.ref aF, .ref aC, .long opat, .long ogoal])), (aC, .inl (cI, 128, .inl (va_cpy ocol col 0 0 128))), (aF, .inr (0, [.ref aK, .int made__1, .int mac__2])), (aK, .inl (cI, 6, .inl ks__3)), (oaS, .inr (2, [.ref oaF, .ref oaC, .long opat, .long ogoal])), (oaC, .inl (cI, 128, .inl ocol)), (oaF, .inr (0, [.ref oaK, .int omade, .int omac])), (oaK, .inl (cI, 6, .inl oks))] := hD
  exact hret _ _ _ _ _ _ _ _ _ _ dX3_becomeLike_45 hP hD hS hq
set_option maxRecDepth 20000 in
theorem kwX3_colourOf_18 : Cond.fieldLink RX3 18 "PunchedFolds$Sheet" "colours" "[I" ∈ wsX3_colourOf := by decide +kernel
set_option maxRecDepth 20000 in
theorem iwX3_colourOf_X3 : ∀ w ∈ wsX30, w ∈ wsX3_colourOf := by decide +kernel
set_option maxHeartbeats 4000000 in
set_option maxRecDepth 100000 in
theorem c_X3_colourOf (l : Launch) (dC : Nat → ClassId) (dI : Nat → Nat → Nat) (cI cC cS : ClassId) (aS : Nat) (aC : Nat) (aF : Nat) (sz : Nat) (pat : Int64) (goal : Int64) (col : Nat → Int32) (x1 : Int32) {post : Int32 → Prop} (hq : wp_X3_colourOf col x1 post) : Met l yX3_colourOf wsX3_colourOf ({ frames := 0, cells := 0, slots := 0, locals := 0 } : Room) (gn_Pre (dC, dI) cI cC cS [.ref aS, .int x1] sz [(aS, .inr (2, [.ref aF, .ref aC, .long pat, .long goal])), (aC, .inl (cI, 128, .inl col))]) (va_Qi (fun (r : Int32) (u : Unit) => post r) (fun (u : Unit) t => va_P (dC, dI) vwCl [(aS, .inr (2, [.ref aF, .ref aC, .long pat, .long goal])), (aC, .inl (cI, 128, .inl col))] t.heap ∧ va_K (dC, dI) vwCl (gn_tys cI cC cS) t ∧ va_D (va_A [(aS, .inr (2, [.ref aF, .ref aC, .long pat, .long goal])), (aC, .inl (cI, 128, .inl col))] sz) [(aS, .inr (2, [.ref aF, .ref aC, .long pat, .long goal])), (aC, .inl (cI, 128, .inl col))]) (va_A [(aS, .inr (2, [.ref aF, .ref aC, .long pat, .long goal])), (aC, .inl (cI, 128, .inl col))] sz)) 0 0 (va_A [(aS, .inr (2, [.ref aF, .ref aC, .long pat, .long goal])), (aC, .inl (cI, 128, .inl col))] sz) := by
  unfold wp_X3_colourOf at hq
  refine Met.ofW (cc := cX3_colourOf) (maxL := 2) (ret := (some .int)) (by decide) rfl ?_
  intro p e s m args below meth c s₁ B hml hv
  obtain ⟨rfl, hsz, hP, hK, hN, hD0⟩ := hv
  have hx := B.exec
  have hb := B.bytes
  have hr := B.returns
  have hts := atoms_spec (ws := wsX3_colourOf) B.pre
  have hown : s.vm.findClass RX3 = some m.cls := findClass_of_methodNamed B.named
  have hlocks := B.notSynchronized
  subst hsz
  have hD := hD0.self (sz := s.heap.size)
  generalize hAe : va_A [(aS, .inr (2, [.ref aF, .ref aC, .long pat, .long goal])), (aC, .inl (cI, 128, .inl col))] s.heap.size = A at hD ⊢
  have hA : ∀ q : Nat, s.heap.size ≤ q → A q := fun q h => by rw [← hAe]; exact Or.inr h
  have hS : va_S A s.heap s.heap [] := va_S.rf
  have hl := lv_entry ([.ref aS, .int x1] : List Value) (n := 2) (Nat.le_of_ble_eq_true rfl)
  rw [lg_entry_eq]
  generalize (lg_sl ([.ref aS, .int x1] : List Value) ++ List.replicate (2 - (lg_sl ([.ref aS, .int x1] : List Value)).length) Slot.unset).toArray = ls at hl ⊢
  have hl : lv_has ls 2 [(0, .ref aS), (1, .int x1)] := hl
  refine gn_Q (hret := fun Q => ∀ (pc : Nat) (ls : Array Slot) (H : Heap) (locs : List Loc) (r : Int32) , decode cX3_colourOf pc = .ok (.ireturn, 1) → va_P (dC, dI) vwCl [(aS, .inr (2, [.ref aF, .ref aC, .long pat, .long goal])), (aC, .inl (cI, 128, .inl col))] H → va_D A [(aS, .inr (2, [.ref aF, .ref aC, .long pat, .long goal])), (aC, .inl (cI, 128, .inl col))] → va_S A s.heap H locs → post r → W p l e ({ frames := 0, cells := 0, slots := 0, locals := 0 } : Room) s m ([.ref aS, .int x1] : List Value).toArray below meth c H locs 0 0 Q (F0 m pc ls [.int r])) (fun Q hret => ?_) ?_
  rotate_left
  · intro pc ls H locs r hdg hP hD hS hpost
    exact W.iret (v := r) hx hb hr (fun t ht hW => ⟨⟨r, (), rfl, hpost, by rw [ht]; exact hP, va_K.moved hW.alike hK, hD⟩, hS.F ht⟩) hS.2.2 hdg
  refine lv_iload_n hx hb dX3_colourOf_0 rfl (lv_at hl 1 rfl) ?_
  have hq := hq (∀ (H : Heap) (locs : List Loc) (ls : Array Slot), va_P (dC, dI) vwCl [(aS, .inr (2, [.ref aF, .ref aC, .long pat, .long goal])), (aC, .inl (cI, 128, .inl col))] H → va_D A [(aS, .inr (2, [.ref aF, .ref aC, .long pat, .long goal])), (aC, .inl (cI, 128, .inl col))] → va_S A s.heap H locs → lv_has ls 2 [] → W p l e ({ frames := 0, cells := 0, slots := 0, locals := 0 } : Room) s m ([.ref aS, .int x1] : List Value).toArray below meth c H locs 0 0 Q (F0 m 22 ls [])) (by
    intro  hq H locs ls hP hD hS hl
    refine lv_iconst (v := 0) hx hb dX3_colourOf_22 (by decide) ?_
    exact hret _ _ _ _ _ dX3_colourOf_23 hP hD hS hq)
  refine lv_if_lt (tgt := 22) hx hb dX3_colourOf_1 (by decide) (fun hc => ?_) (fun hc => ?_)
  · have hq := hq.1 hc
    exact hq _ _ _ hP hD hS (lv_sub hl [] rfl)
  · have hq := hq.2 hc
    refine lv_iload_n hx hb dX3_colourOf_4 rfl (lv_at hl 1 rfl) ?_
    refine lv_aload_n hx hb dX3_colourOf_5 rfl (lv_at hl 0 rfl) ?_
    refine va_get (D := (dC, dI)) (ci := 2) (v := .ref aC) (C := RX3) (T := TX3) (N := 4) hx hb hts iwX3_colourOf_X3 hown hK hP 0 rfl rfl 1 (by decide) (hts _ kwX3_colourOf_18) (fun _ h9 => h9) rfl dX3_colourOf_6 ?_
    refine va_alen hx hb hK hP 1 0 rfl rfl (v := 128) rfl dX3_colourOf_9 ?_
    refine lv_icmp_ge (tgt := 22) hx hb dX3_colourOf_10 (by decide) (fun hc => ?_) (fun hc => ?_)
    · have hq := hq.1 hc
      exact hq _ _ _ hP hD hS (lv_sub hl [] rfl)
    · have hq := hq.2 hc
      refine lv_aload_n hx hb dX3_colourOf_13 rfl (lv_at hl 0 rfl) ?_
      refine va_get (D := (dC, dI)) (ci := 2) (v := .ref aC) (C := RX3) (T := TX3) (N := 4) hx hb hts iwX3_colourOf_X3 hown hK hP 0 rfl rfl 1 (by decide) (hts _ kwX3_colourOf_18) (fun _ h9 => h9) rfl dX3_colourOf_14 ?_
      refine lv_iload_n hx hb dX3_colourOf_17 rfl (lv_at hl 1 rfl) ?_
      have hin := hq.1
      have hq := hq.2
      refine va_iald hx hb hK hP 1 0 rfl rfl hin dX3_colourOf_18 ?_
      refine lv_goto (tgt := 23) hx hb dX3_colourOf_19 (by decide) ?_
      exact hret _ _ _ _ _ dX3_colourOf_23 hP hD hS hq
set_option maxRecDepth 20000 in
theorem kwX3_setColour_18 : Cond.fieldLink RX3 18 "PunchedFolds$Sheet" "colours" "[I" ∈ wsX3_setColour := by decide +kernel
set_option maxRecDepth 20000 in
theorem iwX3_setColour_X3 : ∀ w ∈ wsX30, w ∈ wsX3_setColour := by decide +kernel
set_option maxHeartbeats 4000000 in
set_option maxRecDepth 100000 in
theorem c_X3_setColour (l : Launch) (dC : Nat → ClassId) (dI : Nat → Nat → Nat) (cI cC cS : ClassId) (aS : Nat) (aC : Nat) (aF : Nat) (sz : Nat) (pat : Int64) (goal : Int64) (col : Nat → Int32) (x1 : Int32) (x2 : Int32) {post : (Nat → Int32) → Prop} (hq : wp_X3_setColour col x1 x2 post) : Met l yX3_setColour wsX3_setColour ({ frames := 0, cells := 0, slots := 0, locals := 0 } : Room) (gn_Pre (dC, dI) cI cC cS [.ref aS, .int x1, .int x2] sz [(aS, .inr (2, [.ref aF, .ref aC, .long pat, .long goal])), (aC, .inl (cI, 128, .inl col))]) (va_Qv (fun (u : (Nat → Int32)) => post u) (fun (u : (Nat → Int32)) t => va_P (dC, dI) vwCl [(aS, .inr (2, [.ref aF, .ref aC, .long pat, .long goal])), (aC, .inl (cI, 128, .inl u))] t.heap ∧ va_K (dC, dI) vwCl (gn_tys cI cC cS) t ∧ va_D (va_A [(aS, .inr (2, [.ref aF, .ref aC, .long pat, .long goal])), (aC, .inl (cI, 128, .inl col))] sz) [(aS, .inr (2, [.ref aF, .ref aC, .long pat, .long goal])), (aC, .inl (cI, 128, .inl u))]) (va_A [(aS, .inr (2, [.ref aF, .ref aC, .long pat, .long goal])), (aC, .inl (cI, 128, .inl col))] sz)) 0 0 (va_A [(aS, .inr (2, [.ref aF, .ref aC, .long pat, .long goal])), (aC, .inl (cI, 128, .inl col))] sz) := by
  unfold wp_X3_setColour at hq
  refine Met.ofW (cc := cX3_setColour) (maxL := 3) (ret := none) (by decide) rfl ?_
  intro p e s m args below meth c s₁ B hml hv
  obtain ⟨rfl, hsz, hP, hK, hN, hD0⟩ := hv
  have hx := B.exec
  have hb := B.bytes
  have hr := B.returns
  have hts := atoms_spec (ws := wsX3_setColour) B.pre
  have hown : s.vm.findClass RX3 = some m.cls := findClass_of_methodNamed B.named
  have hlocks := B.notSynchronized
  subst hsz
  have hD := hD0.self (sz := s.heap.size)
  generalize hAe : va_A [(aS, .inr (2, [.ref aF, .ref aC, .long pat, .long goal])), (aC, .inl (cI, 128, .inl col))] s.heap.size = A at hD ⊢
  have hA : ∀ q : Nat, s.heap.size ≤ q → A q := fun q h => by rw [← hAe]; exact Or.inr h
  have hS : va_S A s.heap s.heap [] := va_S.rf
  have hl := lv_entry ([.ref aS, .int x1, .int x2] : List Value) (n := 3) (Nat.le_of_ble_eq_true rfl)
  rw [lg_entry_eq]
  generalize (lg_sl ([.ref aS, .int x1, .int x2] : List Value) ++ List.replicate (3 - (lg_sl ([.ref aS, .int x1, .int x2] : List Value)).length) Slot.unset).toArray = ls at hl ⊢
  have hl : lv_has ls 3 [(0, .ref aS), (1, .int x1), (2, .int x2)] := hl
  refine gn_Q (hret := fun Q => ∀ (pc : Nat) (ls : Array Slot) (H : Heap) (locs : List Loc) (m_col : Nat → Int32), decode cX3_setColour pc = .ok (.return_, 1) → va_P (dC, dI) vwCl [(aS, .inr (2, [.ref aF, .ref aC, .long pat, .long goal])), (aC, .inl (cI, 128, .inl m_col))] H → va_D A [(aS, .inr (2, [.ref aF, .ref aC, .long pat, .long goal])), (aC, .inl (cI, 128, .inl m_col))] → va_S A s.heap H locs → post m_col → W p l e ({ frames := 0, cells := 0, slots := 0, locals := 0 } : Room) s m ([.ref aS, .int x1, .int x2] : List Value).toArray below meth c H locs 0 0 Q (F0 m pc ls [])) (fun Q hret => ?_) ?_
  rotate_left
  · intro pc ls H locs m_col hdg hP hD hS hpost
    exact W.vret hx hb hr (fun t ht hW => ⟨⟨m_col, rfl, hpost, by rw [ht]; exact hP, va_K.moved hW.alike hK, hD⟩, hS.F ht⟩) hS.2.2 hdg
  refine lv_iload_n hx hb dX3_setColour_0 rfl (lv_at hl 1 rfl) ?_
  refine lv_if_lt (tgt := 20) hx hb dX3_setColour_1 (by decide) (fun hc => ?_) (fun hc => ?_)
  · have hq := hq.1 hc
    exact hret _ _ _ _ _ dX3_setColour_20 hP hD hS hq
  · have hq := hq.2 hc
    refine lv_iload_n hx hb dX3_setColour_4 rfl (lv_at hl 1 rfl) ?_
    refine lv_aload_n hx hb dX3_setColour_5 rfl (lv_at hl 0 rfl) ?_
    refine va_get (D := (dC, dI)) (ci := 2) (v := .ref aC) (C := RX3) (T := TX3) (N := 4) hx hb hts iwX3_setColour_X3 hown hK hP 0 rfl rfl 1 (by decide) (hts _ kwX3_setColour_18) (fun _ h9 => h9) rfl dX3_setColour_6 ?_
    refine va_alen hx hb hK hP 1 0 rfl rfl (v := 128) rfl dX3_setColour_9 ?_
    refine lv_icmp_ge (tgt := 20) hx hb dX3_setColour_10 (by decide) (fun hc => ?_) (fun hc => ?_)
    · have hq := hq.1 hc
      exact hret _ _ _ _ _ dX3_setColour_20 hP hD hS hq
    · have hq := hq.2 hc
      refine lv_aload_n hx hb dX3_setColour_13 rfl (lv_at hl 0 rfl) ?_
      refine va_get (D := (dC, dI)) (ci := 2) (v := .ref aC) (C := RX3) (T := TX3) (N := 4) hx hb hts iwX3_setColour_X3 hown hK hP 0 rfl rfl 1 (by decide) (hts _ kwX3_setColour_18) (fun _ h9 => h9) rfl dX3_setColour_14 ?_
      refine lv_iload_n hx hb dX3_setColour_17 rfl (lv_at hl 1 rfl) ?_
      refine lv_iload_n hx hb dX3_setColour_18 rfl (lv_at hl 2 rfl) ?_
      have hin := hq.1
      have hq := hq.2
      refine va_iast hx hb hK hP hD hS 1 0 rfl rfl hin dX3_setColour_19 (fun H locs hP hD hS => ?_)
      have hP : va_P (dC, dI) vwCl [(aS, .inr (2, [.ref aF, .ref aC, .long pat, .long goal])), (aC, .inl (cI, 128, .inl (upd col (x1).toNatClampNeg x2)))] H := hP
      have hD : va_D A [(aS, .inr (2, [.ref aF, .ref aC, .long pat, .long goal])), (aC, .inl (cI, 128, .inl (upd col (x1).toNatClampNeg x2)))] := hD
      exact hret _ _ _ _ _ dX3_setColour_20 hP hD hS hq
set_option maxRecDepth 20000 in
theorem kwX3_colouredSides_18 : Cond.fieldLink RX3 18 "PunchedFolds$Sheet" "colours" "[I" ∈ wsX3_colouredSides := by decide +kernel
set_option maxRecDepth 20000 in
theorem iwX3_colouredSides_X3 : ∀ w ∈ wsX30, w ∈ wsX3_colouredSides := by decide +kernel
set_option maxHeartbeats 4000000 in
set_option maxRecDepth 100000 in
theorem c_X3_colouredSides (l : Launch) (dC : Nat → ClassId) (dI : Nat → Nat → Nat) (cI cC cS : ClassId) (aS : Nat) (aC : Nat) (aF : Nat) (sz : Nat) (pat : Int64) (goal : Int64) (col : Nat → Int32) {post : Int32 → Prop} (hq : wp_X3_colouredSides col post) : Met l yX3_colouredSides wsX3_colouredSides ({ frames := 0, cells := 0, slots := 0, locals := 0 } : Room) (gn_Pre (dC, dI) cI cC cS [.ref aS] sz [(aS, .inr (2, [.ref aF, .ref aC, .long pat, .long goal])), (aC, .inl (cI, 128, .inl col))]) (va_Qi (fun (r : Int32) (u : Unit) => post r) (fun (u : Unit) t => va_P (dC, dI) vwCl [(aS, .inr (2, [.ref aF, .ref aC, .long pat, .long goal])), (aC, .inl (cI, 128, .inl col))] t.heap ∧ va_K (dC, dI) vwCl (gn_tys cI cC cS) t ∧ va_D (va_A [(aS, .inr (2, [.ref aF, .ref aC, .long pat, .long goal])), (aC, .inl (cI, 128, .inl col))] sz) [(aS, .inr (2, [.ref aF, .ref aC, .long pat, .long goal])), (aC, .inl (cI, 128, .inl col))]) (va_A [(aS, .inr (2, [.ref aF, .ref aC, .long pat, .long goal])), (aC, .inl (cI, 128, .inl col))] sz)) 0 0 (va_A [(aS, .inr (2, [.ref aF, .ref aC, .long pat, .long goal])), (aC, .inl (cI, 128, .inl col))] sz) := by
  unfold wp_X3_colouredSides at hq
  refine Met.ofW (cc := cX3_colouredSides) (maxL := 3) (ret := (some .int)) (by decide) rfl ?_
  intro p e s m args below meth c s₁ B hml hv
  obtain ⟨rfl, hsz, hP, hK, hN, hD0⟩ := hv
  have hx := B.exec
  have hb := B.bytes
  have hr := B.returns
  have hts := atoms_spec (ws := wsX3_colouredSides) B.pre
  have hown : s.vm.findClass RX3 = some m.cls := findClass_of_methodNamed B.named
  have hlocks := B.notSynchronized
  subst hsz
  have hD := hD0.self (sz := s.heap.size)
  generalize hAe : va_A [(aS, .inr (2, [.ref aF, .ref aC, .long pat, .long goal])), (aC, .inl (cI, 128, .inl col))] s.heap.size = A at hD ⊢
  have hA : ∀ q : Nat, s.heap.size ≤ q → A q := fun q h => by rw [← hAe]; exact Or.inr h
  have hS : va_S A s.heap s.heap [] := va_S.rf
  have hl := lv_entry ([.ref aS] : List Value) (n := 3) (Nat.le_of_ble_eq_true rfl)
  rw [lg_entry_eq]
  generalize (lg_sl ([.ref aS] : List Value) ++ List.replicate (3 - (lg_sl ([.ref aS] : List Value)).length) Slot.unset).toArray = ls at hl ⊢
  have hl : lv_has ls 3 [(0, .ref aS)] := hl
  refine gn_Q (hret := fun Q => ∀ (pc : Nat) (ls : Array Slot) (H : Heap) (locs : List Loc) (r : Int32) , decode cX3_colouredSides pc = .ok (.ireturn, 1) → va_P (dC, dI) vwCl [(aS, .inr (2, [.ref aF, .ref aC, .long pat, .long goal])), (aC, .inl (cI, 128, .inl col))] H → va_D A [(aS, .inr (2, [.ref aF, .ref aC, .long pat, .long goal])), (aC, .inl (cI, 128, .inl col))] → va_S A s.heap H locs → post r → W p l e ({ frames := 0, cells := 0, slots := 0, locals := 0 } : Room) s m ([.ref aS] : List Value).toArray below meth c H locs 0 0 Q (F0 m pc ls [.int r])) (fun Q hret => ?_) ?_
  rotate_left
  · intro pc ls H locs r hdg hP hD hS hpost
    exact W.iret (v := r) hx hb hr (fun t ht hW => ⟨⟨r, (), rfl, hpost, by rw [ht]; exact hP, va_K.moved hW.alike hK, hD⟩, hS.F ht⟩) hS.2.2 hdg
  refine lv_iconst (v := 0) hx hb dX3_colouredSides_0 (by decide) ?_
  refine lv_istore_n (lv' := [(1, .int (0 : Int32)), (0, .ref aS)]) hx hb dX3_colouredSides_1 rfl hl (by decide) rfl (fun ls hl => ?_)
  refine lv_iconst (v := 0) hx hb dX3_colouredSides_2 (by decide) ?_
  refine lv_istore_n (lv' := [(2, .int (0 : Int32)), (1, .int (0 : Int32)), (0, .ref aS)]) hx hb dX3_colouredSides_3 rfl hl (by decide) rfl (fun ls hl => ?_)
  have hq := hq (fun (v1_1 : Int32) (v2_2 : Int32) => ∀ (H : Heap) (locs : List Loc) (ls : Array Slot), va_P (dC, dI) vwCl [(aS, .inr (2, [.ref aF, .ref aC, .long pat, .long goal])), (aC, .inl (cI, 128, .inl col))] H → va_D A [(aS, .inr (2, [.ref aF, .ref aC, .long pat, .long goal])), (aC, .inl (cI, 128, .inl col))] → va_S A s.heap H locs → lv_has ls 3 [(0, .ref aS), (1, .int v1_1), (2, .int v2_2)] → W p l e ({ frames := 0, cells := 0, slots := 0, locals := 0 } : Room) s m ([.ref aS] : List Value).toArray below meth c H locs 0 0 Q (F0 m 4 ls [])) (by
    intro v1_1 v2_2 hq H locs ls hP hD hS hl
    refine lv_iload_n hx hb dX3_colouredSides_4 rfl (lv_at hl 2 rfl) ?_
    refine lv_aload_n hx hb dX3_colouredSides_5 rfl (lv_at hl 0 rfl) ?_
    refine va_get (D := (dC, dI)) (ci := 2) (v := .ref aC) (C := RX3) (T := TX3) (N := 4) hx hb hts iwX3_colouredSides_X3 hown hK hP 0 rfl rfl 1 (by decide) (hts _ kwX3_colouredSides_18) (fun _ h9 => h9) rfl dX3_colouredSides_6 ?_
    refine va_alen hx hb hK hP 1 0 rfl rfl (v := 128) rfl dX3_colouredSides_9 ?_
    refine lv_icmp_ge (tgt := 36) hx hb dX3_colouredSides_10 (by decide) (fun hc => ?_) (fun hc => ?_)
    · have hq := hq.1 hc
      refine lv_iload_n hx hb dX3_colouredSides_36 rfl (lv_at hl 1 rfl) ?_
      exact hret _ _ _ _ _ dX3_colouredSides_37 hP hD hS hq
    · have hq := hq.2 hc
      refine lv_iload_n hx hb dX3_colouredSides_13 rfl (lv_at hl 1 rfl) ?_
      refine lv_aload_n hx hb dX3_colouredSides_14 rfl (lv_at hl 0 rfl) ?_
      refine va_get (D := (dC, dI)) (ci := 2) (v := .ref aC) (C := RX3) (T := TX3) (N := 4) hx hb hts iwX3_colouredSides_X3 hown hK hP 0 rfl rfl 1 (by decide) (hts _ kwX3_colouredSides_18) (fun _ h9 => h9) rfl dX3_colouredSides_15 ?_
      refine lv_iload_n hx hb dX3_colouredSides_18 rfl (lv_at hl 2 rfl) ?_
      have hin := hq.1
      have hq := hq.2
      refine va_iald hx hb hK hP 1 0 rfl rfl hin dX3_colouredSides_19 ?_
      have hq := hq (fun (t_3 : Int32) => ∀ (H : Heap) (locs : List Loc) (ls : Array Slot), va_P (dC, dI) vwCl [(aS, .inr (2, [.ref aF, .ref aC, .long pat, .long goal])), (aC, .inl (cI, 128, .inl col))] H → va_D A [(aS, .inr (2, [.ref aF, .ref aC, .long pat, .long goal])), (aC, .inl (cI, 128, .inl col))] → va_S A s.heap H locs → lv_has ls 3 [(0, .ref aS), (2, .int v2_2)] → W p l e ({ frames := 0, cells := 0, slots := 0, locals := 0 } : Room) s m ([.ref aS] : List Value).toArray below meth c H locs 0 0 Q (F0 m 28 ls [.int t_3, .int v1_1])) (by
        intro t_3 hq H locs ls hP hD hS hl
        refine lv_iadd hx hb dX3_colouredSides_28 ?_
        refine lv_topi (fun w1_4 ew1_4 => ?_)
        have hq := hq w1_4 ew1_4
        refine lv_istore_n (lv' := [(1, .int w1_4), (0, .ref aS), (2, .int v2_2)]) hx hb dX3_colouredSides_29 rfl hl (by decide) rfl (fun ls hl => ?_)
        refine lv_iinc (v := (v2_2 + (1 : Int32))) (lv' := [(2, .int (v2_2 + (1 : Int32))), (1, .int w1_4), (0, .ref aS)]) hx hb dX3_colouredSides_30 hl (k := 2) rfl rfl (by decide) rfl (fun ls hl => ?_)
        refine lv_goto (tgt := 4) hx hb dX3_colouredSides_33 (by decide) ?_
        exact hq _ _ _ hP hD hS (lv_sub hl [2, 1, 0] rfl))
      refine lv_if_eq (tgt := 27) hx hb dX3_colouredSides_20 (by decide) (fun hc => ?_) (fun hc => ?_)
      · have hq := hq.1 hc
        refine lv_iconst (v := 0) hx hb dX3_colouredSides_27 (by decide) ?_
        exact hq _ _ _ hP hD hS (lv_sub hl [0, 2] rfl)
      · have hq := hq.2 hc
        refine lv_iconst (v := 1) hx hb dX3_colouredSides_23 (by decide) ?_
        refine lv_goto (tgt := 28) hx hb dX3_colouredSides_24 (by decide) ?_
        exact hq _ _ _ hP hD hS (lv_sub hl [0, 2] rfl))
  exact hq _ _ _ hP hD hS (lv_sub hl [2, 1, 0] rfl)
set_option maxRecDepth 20000 in
theorem kwX3_makeFold_12 : Cond.fieldLink RX3 12 "PunchedFolds$Sheet" "folding" "LPunchedFolds$Folding;" ∈ wsX3_makeFold := by decide +kernel
set_option maxRecDepth 20000 in
theorem iwX3_makeFold_X3 : ∀ w ∈ wsX30, w ∈ wsX3_makeFold := by decide +kernel
set_option maxHeartbeats 4000000 in
set_option maxRecDepth 100000 in
theorem c_X3_makeFold (l : Launch) (dC : Nat → ClassId) (dI : Nat → Nat → Nat) (cI cC cS : ClassId) (aS : Nat) (aC : Nat) (aF : Nat) (aK : Nat) (sz : Nat) (pat : Int64) (goal : Int64) (made : Int32) (mac : Int32) (ks : Nat → Int32) (x1 : Int32) {post : Int32 → Int32 → Int32 → (Nat → Int32) → Prop} (hq : wp_X3_makeFold made mac ks x1 post) : Met l yX3_makeFold wsX3_makeFold ({ frames := 2, cells := 0, slots := 0, locals := 41 } : Room) (gn_Pre (dC, dI) cI cC cS [.ref aS, .int x1] sz [(aS, .inr (2, [.ref aF, .ref aC, .long pat, .long goal])), (aF, .inr (0, [.ref aK, .int made, .int mac])), (aK, .inl (cI, 6, .inl ks))]) (va_Qi (fun (r : Int32) (u : Int32 × Int32 × (Nat → Int32)) => post r u.1 u.2.1 u.2.2) (fun (u : Int32 × Int32 × (Nat → Int32)) t => va_P (dC, dI) vwCl [(aS, .inr (2, [.ref aF, .ref aC, .long pat, .long goal])), (aF, .inr (0, [.ref aK, .int u.1, .int u.2.1])), (aK, .inl (cI, 6, .inl u.2.2))] t.heap ∧ va_K (dC, dI) vwCl (gn_tys cI cC cS) t ∧ va_D (va_A [(aS, .inr (2, [.ref aF, .ref aC, .long pat, .long goal])), (aF, .inr (0, [.ref aK, .int made, .int mac])), (aK, .inl (cI, 6, .inl ks))] sz) [(aS, .inr (2, [.ref aF, .ref aC, .long pat, .long goal])), (aF, .inr (0, [.ref aK, .int u.1, .int u.2.1])), (aK, .inl (cI, 6, .inl u.2.2))]) (va_A [(aS, .inr (2, [.ref aF, .ref aC, .long pat, .long goal])), (aF, .inr (0, [.ref aK, .int made, .int mac])), (aK, .inl (cI, 6, .inl ks))] sz)) 0 0 (va_A [(aS, .inr (2, [.ref aF, .ref aC, .long pat, .long goal])), (aF, .inr (0, [.ref aK, .int made, .int mac])), (aK, .inl (cI, 6, .inl ks))] sz) := by
  unfold wp_X3_makeFold at hq
  refine Met.ofW (cc := cX3_makeFold) (maxL := 3) (ret := (some .int)) (by decide) rfl ?_
  intro p e s m args below meth c s₁ B hml hv
  obtain ⟨rfl, hsz, hP, hK, hN, hD0⟩ := hv
  have hx := B.exec
  have hb := B.bytes
  have hr := B.returns
  have hts := atoms_spec (ws := wsX3_makeFold) B.pre
  have hown : s.vm.findClass RX3 = some m.cls := findClass_of_methodNamed B.named
  have hlocks := B.notSynchronized
  subst hsz
  have hD := hD0.self (sz := s.heap.size)
  generalize hAe : va_A [(aS, .inr (2, [.ref aF, .ref aC, .long pat, .long goal])), (aF, .inr (0, [.ref aK, .int made, .int mac])), (aK, .inl (cI, 6, .inl ks))] s.heap.size = A at hD ⊢
  have hA : ∀ q : Nat, s.heap.size ≤ q → A q := fun q h => by rw [← hAe]; exact Or.inr h
  have hS : va_S A s.heap s.heap [] := va_S.rf
  have hl := lv_entry ([.ref aS, .int x1] : List Value) (n := 3) (Nat.le_of_ble_eq_true rfl)
  rw [lg_entry_eq]
  generalize (lg_sl ([.ref aS, .int x1] : List Value) ++ List.replicate (3 - (lg_sl ([.ref aS, .int x1] : List Value)).length) Slot.unset).toArray = ls at hl ⊢
  have hl : lv_has ls 3 [(0, .ref aS), (1, .int x1)] := hl
  refine gn_Q (hret := fun Q => ∀ (pc : Nat) (ls : Array Slot) (H : Heap) (locs : List Loc) (r : Int32) (m_made : Int32) (m_mac : Int32) (m_ks : Nat → Int32), decode cX3_makeFold pc = .ok (.ireturn, 1) → va_P (dC, dI) vwCl [(aS, .inr (2, [.ref aF, .ref aC, .long pat, .long goal])), (aF, .inr (0, [.ref aK, .int m_made, .int m_mac])), (aK, .inl (cI, 6, .inl m_ks))] H → va_D A [(aS, .inr (2, [.ref aF, .ref aC, .long pat, .long goal])), (aF, .inr (0, [.ref aK, .int m_made, .int m_mac])), (aK, .inl (cI, 6, .inl m_ks))] → va_S A s.heap H locs → post r m_made m_mac m_ks → W p l e ({ frames := 2, cells := 0, slots := 0, locals := 41 } : Room) s m ([.ref aS, .int x1] : List Value).toArray below meth c H locs 0 0 Q (F0 m pc ls [.int r])) (fun Q hret => ?_) ?_
  rotate_left
  · intro pc ls H locs r m_made m_mac m_ks hdg hP hD hS hpost
    exact W.iret (v := r) hx hb hr (fun t ht hW => ⟨⟨r, (m_made, m_mac, m_ks), rfl, hpost, by rw [ht]; exact hP, va_K.moved hW.alike hK, hD⟩, hS.F ht⟩) hS.2.2 hdg
  refine lv_iload_n hx hb dX3_makeFold_0 rfl (lv_at hl 1 rfl) ?_
  have hq := hq (∀ (H : Heap) (locs : List Loc) (ls : Array Slot), va_P (dC, dI) vwCl [(aS, .inr (2, [.ref aF, .ref aC, .long pat, .long goal])), (aF, .inr (0, [.ref aK, .int made, .int mac])), (aK, .inl (cI, 6, .inl ks))] H → va_D A [(aS, .inr (2, [.ref aF, .ref aC, .long pat, .long goal])), (aF, .inr (0, [.ref aK, .int made, .int mac])), (aK, .inl (cI, 6, .inl ks))] → va_S A s.heap H locs → lv_has ls 3 [] → W p l e ({ frames := 2, cells := 0, slots := 0, locals := 41 } : Room) s m ([.ref aS, .int x1] : List Value).toArray below meth c H locs 0 0 Q (F0 m 9 ls [])) (by
    intro  hq H locs ls hP hD hS hl
    refine lv_bipush (v := -2) hx hb dX3_makeFold_9 (by decide) ?_
    exact hret _ _ _ _ _ _ _ _ dX3_makeFold_11 hP hD hS hq)
  refine lv_if_lt (tgt := 9) hx hb dX3_makeFold_1 (by decide) (fun hc => ?_) (fun hc => ?_)
  · have hq := hq.1 hc
    exact hq _ _ _ hP hD hS (lv_sub hl [] rfl)
  · have hq := hq.2 hc
    refine lv_iload_n hx hb dX3_makeFold_4 rfl (lv_at hl 1 rfl) ?_
    refine lv_iconst (v := 4) hx hb dX3_makeFold_5 (by decide) ?_
    refine lv_icmp_lt (tgt := 12) hx hb dX3_makeFold_6 (by decide) (fun hc => ?_) (fun hc => ?_)
    · have hq := hq.1 hc
      refine lv_iload_n hx hb dX3_makeFold_12 rfl (lv_at hl 1 rfl) ?_
      have hPc := hP.sub (ws' := []) [] rfl
      have hDc := hD.sub (ws' := []) [] (by decide) rfl
      have hFc := va_free (wc := []) hD hS hA [] rfl
      refine va_calli (va_runS (As := [.int x1]) (rest := []) ⟨hx, hb, hml, hown, hts⟩ (c_X0_isAcross l dC dI cI cC cS _ x1 hq) (va_cwS 1 hts gX3_makeFold_X0_isAcross rfl rfl rfl (by decide +kernel) ⟨Nat.le_of_ble_eq_true rfl, Nat.le_of_ble_eq_true rfl⟩) (gn_preS hPc hK hN hDc) rfl rfl hl.1 rfl (lv_room (Nat.le_of_ble_eq_true rfl)) dX3_makeFold_13 ⟨Nat.zero_le _, Nat.zero_le _⟩) hS (fun q _ h => hFc q h) hFc (fun r_1 u t H1 locs ht hvm hq hB hz1 hk1 hS => ?_)
      obtain ⟨hP1, hK1, hD1⟩ := hB
      rw [ht] at hP1
      try dsimp only at hq
      obtain ⟨hP, hD⟩ := va_join (wr := [(aS, .inr (2, [.ref aF, .ref aC, .long pat, .long goal])), (aF, .inr (0, [.ref aK, .int made, .int mac])), (aK, .inl (cI, 6, .inl ks))]) (w1 := []) hP hD [] [0, 1, 2] rfl rfl (by decide) (by decide) hk1 hFc hP1 hD1
      have hP := hP.sub (ws' := [(aS, .inr (2, [.ref aF, .ref aC, .long pat, .long goal])), (aF, .inr (0, [.ref aK, .int made, .int mac])), (aK, .inl (cI, 6, .inl ks))]) [0, 1, 2] rfl
      have hD := hD.sub (ws' := [(aS, .inr (2, [.ref aF, .ref aC, .long pat, .long goal])), (aF, .inr (0, [.ref aK, .int made, .int mac])), (aK, .inl (cI, 6, .inl ks))]) [0, 1, 2] (by decide) rfl
      generalize H1 = H at hP hS ⊢
      have hq := hq (fun (t_2 : Int32) => ∀ (H : Heap) (locs : List Loc) (ls : Array Slot), va_P (dC, dI) vwCl [(aS, .inr (2, [.ref aF, .ref aC, .long pat, .long goal])), (aF, .inr (0, [.ref aK, .int made, .int mac])), (aK, .inl (cI, 6, .inl ks))] H → va_D A [(aS, .inr (2, [.ref aF, .ref aC, .long pat, .long goal])), (aF, .inr (0, [.ref aK, .int made, .int mac])), (aK, .inl (cI, 6, .inl ks))] → va_S A s.heap H locs → lv_has ls 3 [(0, .ref aS), (1, .int x1)] → W p l e ({ frames := 2, cells := 0, slots := 0, locals := 41 } : Room) s m ([.ref aS, .int x1] : List Value).toArray below meth c H locs 0 0 Q (F0 m 36 ls [.int t_2])) (by
        intro t_2 hq H locs ls hP hD hS hl
        refine lv_istore_n (lv' := [(2, .int t_2), (0, .ref aS), (1, .int x1)]) hx hb dX3_makeFold_36 rfl hl (by decide) rfl (fun ls hl => ?_)
        refine lv_iload_n hx hb dX3_makeFold_37 rfl (lv_at hl 0 rfl) ?_
        refine lv_iconst (v := 2) hx hb dX3_makeFold_38 (by decide) ?_
        refine lv_icmp_ge (tgt := 45) hx hb dX3_makeFold_39 (by decide) (fun hc => ?_) (fun hc => ?_)
        · have hq := hq.1 hc
          refine lv_aload_n hx hb dX3_makeFold_45 rfl (lv_at hl 1 rfl) ?_
          refine va_get (D := (dC, dI)) (ci := 2) (v := .ref aF) (C := RX3) (T := TX3) (N := 4) hx hb hts iwX3_makeFold_X3 hown hK hP 0 rfl rfl 0 (by decide) (hts _ kwX3_makeFold_12) (fun _ h9 => h9) rfl dX3_makeFold_46 ?_
          refine lv_iload_n hx hb dX3_makeFold_49 rfl (lv_at hl 2 rfl) ?_
          have hPc := hP.sub (ws' := [(aF, .inr (0, [.ref aK, .int made, .int mac])), (aK, .inl (cI, 6, .inl ks))]) [1, 2] rfl
          have hDc := hD.sub (ws' := [(aF, .inr (0, [.ref aK, .int made, .int mac])), (aK, .inl (cI, 6, .inl ks))]) [1, 2] (by decide) rfl
          have hFc := va_free (wc := [(aF, .inr (0, [.ref aK, .int made, .int mac])), (aK, .inl (cI, 6, .inl ks))]) hD hS hA [1, 2] rfl
          refine va_callv (va_runV (As := [.int x1]) (rest := []) ⟨hx, hb, hml, hown, hts⟩ (c_X0_addFold l dC dI cI cC cS aF aK _ made mac ks x1 hq) (cwV 1 hts gX3_makeFold_X0_addFold rfl rfl rfl (by decide +kernel) ⟨Nat.le_of_ble_eq_true rfl, Nat.le_of_ble_eq_true rfl⟩) (gn_preV hPc hK hN hDc (ci := 0) (q0 := 0) rfl rfl) rfl rfl hl.1 rfl (lv_room (Nat.le_of_ble_eq_true rfl)) dX3_makeFold_50 ⟨Nat.zero_le _, Nat.zero_le _⟩) hS (fun q _ h => hFc q h) hFc (fun u t H1 locs ht hvm hq hB hz1 hk1 hS => ?_)
          obtain ⟨made__3, mac__4, ks__5⟩ := u
          obtain ⟨hP1, hK1, hD1⟩ := hB
          rw [ht] at hP1
          try dsimp only at hq
          obtain ⟨hP, hD⟩ := va_join (wr := [(aS, .inr (2, [.ref aF, .ref aC, .long pat, .long goal]))]) (w1 := [(aF, .inr (0, [.ref aK, .int made__3, .int mac__4])), (aK, .inl (cI, 6, .inl ks__5))]) hP hD [1, 2] [0] rfl rfl (by decide) (by decide) hk1 hFc hP1 hD1
          have hP := hP.sub (ws' := [(aS, .inr (2, [.ref aF, .ref aC, .long pat, .long goal])), (aF, .inr (0, [.ref aK, .int made__3, .int mac__4])), (aK, .inl (cI, 6, .inl ks__5))]) [0, 1, 2] rfl
          have hD := hD.sub (ws' := [(aS, .inr (2, [.ref aF, .ref aC, .long pat, .long goal])), (aF, .inr (0, [.ref aK, .int made__3, .int mac__4])), (aK, .inl (cI, 6, .inl ks__5))]) [0, 1, 2] (by decide) rfl
          generalize H1 = H at hP hS ⊢
          refine lv_aload_n hx hb dX3_makeFold_53 rfl (lv_at hl 1 rfl) ?_
          refine va_get (D := (dC, dI)) (ci := 2) (v := .ref aF) (C := RX3) (T := TX3) (N := 4) hx hb hts iwX3_makeFold_X3 hown hK hP 0 rfl rfl 0 (by decide) (hts _ kwX3_makeFold_12) (fun _ h9 => h9) rfl dX3_makeFold_54 ?_
          have hPc := hP.sub (ws' := [(aF, .inr (0, [.ref aK, .int made__3, .int mac__4]))]) [1] rfl
          have hDc := hD.sub (ws' := [(aF, .inr (0, [.ref aK, .int made__3, .int mac__4]))]) [1] (by decide) rfl
          have hFc := va_free (wc := [(aF, .inr (0, [.ref aK, .int made__3, .int mac__4]))]) hD hS hA [1] rfl
          refine va_calli (va_runV (As := []) (rest := []) ⟨hx, hb, hml, hown, hts⟩ (c_X0_layers l dC dI cI cC cS aF aK _ made__3 mac__4 hq) (cwV 0 hts gX3_makeFold_X0_layers rfl rfl rfl (by decide +kernel) ⟨Nat.le_of_ble_eq_true rfl, Nat.le_of_ble_eq_true rfl⟩) (gn_preV hPc hK hN hDc (ci := 0) (q0 := 0) rfl rfl) rfl rfl hl.1 rfl (lv_room (Nat.le_of_ble_eq_true rfl)) dX3_makeFold_57 ⟨Nat.zero_le _, Nat.zero_le _⟩) hS (fun q _ h => hFc q h) hFc (fun r_6 u t H1 locs ht hvm hq hB hz1 hk1 hS => ?_)
          obtain ⟨hP1, hK1, hD1⟩ := hB
          rw [ht] at hP1
          try dsimp only at hq
          obtain ⟨hP, hD⟩ := va_join (wr := [(aS, .inr (2, [.ref aF, .ref aC, .long pat, .long goal])), (aK, .inl (cI, 6, .inl ks__5))]) (w1 := [(aF, .inr (0, [.ref aK, .int made__3, .int mac__4]))]) hP hD [1] [0, 2] rfl rfl (by decide) (by decide) hk1 hFc hP1 hD1
          have hP := hP.sub (ws' := [(aS, .inr (2, [.ref aF, .ref aC, .long pat, .long goal])), (aF, .inr (0, [.ref aK, .int made__3, .int mac__4])), (aK, .inl (cI, 6, .inl ks__5))]) [0, 2, 1] rfl
          have hD := hD.sub (ws' := [(aS, .inr (2, [.ref aF, .ref aC, .long pat, .long goal])), (aF, .inr (0, [.ref aK, .int made__3, .int mac__4])), (aK, .inl (cI, 6, .inl ks__5))]) [0, 2, 1] (by decide) rfl
          generalize H1 = H at hP hS ⊢
          exact hret _ _ _ _ _ _ _ _ dX3_makeFold_60 hP hD hS hq
        · have hq := hq.2 hc
          refine lv_bipush (v := -3) hx hb dX3_makeFold_42 (by decide) ?_
          exact hret _ _ _ _ _ _ _ _ dX3_makeFold_44 hP hD hS hq)
      refine lv_if_eq (tgt := 29) hx hb dX3_makeFold_16 (by decide) (fun hc => ?_) (fun hc => ?_)
      · have hq := hq.1 hc
        refine lv_aload_n hx hb dX3_makeFold_29 rfl (lv_at hl 0 rfl) ?_
        refine va_get (D := (dC, dI)) (ci := 2) (v := .ref aF) (C := RX3) (T := TX3) (N := 4) hx hb hts iwX3_makeFold_X3 hown hK hP 0 rfl rfl 0 (by decide) (hts _ kwX3_makeFold_12) (fun _ h9 => h9) rfl dX3_makeFold_30 ?_
        have hPc := hP.sub (ws' := [(aF, .inr (0, [.ref aK, .int made, .int mac]))]) [1] rfl
        have hDc := hD.sub (ws' := [(aF, .inr (0, [.ref aK, .int made, .int mac]))]) [1] (by decide) rfl
        have hFc := va_free (wc := [(aF, .inr (0, [.ref aK, .int made, .int mac]))]) hD hS hA [1] rfl
        refine va_calli (va_runV (As := []) (rest := []) ⟨hx, hb, hml, hown, hts⟩ (c_X0_rows l dC dI cI cC cS aF aK _ made mac hq) (cwV 0 hts gX3_makeFold_X0_rows rfl rfl rfl (by decide +kernel) ⟨Nat.le_of_ble_eq_true rfl, Nat.le_of_ble_eq_true rfl⟩) (gn_preV hPc hK hN hDc (ci := 0) (q0 := 0) rfl rfl) rfl rfl hl.1 rfl (lv_room (Nat.le_of_ble_eq_true rfl)) dX3_makeFold_33 ⟨Nat.zero_le _, Nat.zero_le _⟩) hS (fun q _ h => hFc q h) hFc (fun r_7 u t H1 locs ht hvm hq hB hz1 hk1 hS => ?_)
        obtain ⟨hP1, hK1, hD1⟩ := hB
        rw [ht] at hP1
        try dsimp only at hq
        obtain ⟨hP, hD⟩ := va_join (wr := [(aS, .inr (2, [.ref aF, .ref aC, .long pat, .long goal])), (aK, .inl (cI, 6, .inl ks))]) (w1 := [(aF, .inr (0, [.ref aK, .int made, .int mac]))]) hP hD [1] [0, 2] rfl rfl (by decide) (by decide) hk1 hFc hP1 hD1
        have hP := hP.sub (ws' := [(aS, .inr (2, [.ref aF, .ref aC, .long pat, .long goal])), (aF, .inr (0, [.ref aK, .int made, .int mac])), (aK, .inl (cI, 6, .inl ks))]) [0, 2, 1] rfl
        have hD := hD.sub (ws' := [(aS, .inr (2, [.ref aF, .ref aC, .long pat, .long goal])), (aF, .inr (0, [.ref aK, .int made, .int mac])), (aK, .inl (cI, 6, .inl ks))]) [0, 2, 1] (by decide) rfl
        generalize H1 = H at hP hS ⊢
        exact hq _ _ _ hP hD hS (lv_sub hl [0, 1] rfl)
      · have hq := hq.2 hc
        refine lv_aload_n hx hb dX3_makeFold_19 rfl (lv_at hl 0 rfl) ?_
        refine va_get (D := (dC, dI)) (ci := 2) (v := .ref aF) (C := RX3) (T := TX3) (N := 4) hx hb hts iwX3_makeFold_X3 hown hK hP 0 rfl rfl 0 (by decide) (hts _ kwX3_makeFold_12) (fun _ h9 => h9) rfl dX3_makeFold_20 ?_
        have hPc := hP.sub (ws' := [(aF, .inr (0, [.ref aK, .int made, .int mac]))]) [1] rfl
        have hDc := hD.sub (ws' := [(aF, .inr (0, [.ref aK, .int made, .int mac]))]) [1] (by decide) rfl
        have hFc := va_free (wc := [(aF, .inr (0, [.ref aK, .int made, .int mac]))]) hD hS hA [1] rfl
        refine va_calli (va_runV (As := []) (rest := []) ⟨hx, hb, hml, hown, hts⟩ (c_X0_columns l dC dI cI cC cS aF aK _ made mac hq) (cwV 0 hts gX3_makeFold_X0_columns rfl rfl rfl (by decide +kernel) ⟨Nat.le_of_ble_eq_true rfl, Nat.le_of_ble_eq_true rfl⟩) (gn_preV hPc hK hN hDc (ci := 0) (q0 := 0) rfl rfl) rfl rfl hl.1 rfl (lv_room (Nat.le_of_ble_eq_true rfl)) dX3_makeFold_23 ⟨Nat.zero_le _, Nat.zero_le _⟩) hS (fun q _ h => hFc q h) hFc (fun r_8 u t H1 locs ht hvm hq hB hz1 hk1 hS => ?_)
        obtain ⟨hP1, hK1, hD1⟩ := hB
        rw [ht] at hP1
        try dsimp only at hq
        obtain ⟨hP, hD⟩ := va_join (wr := [(aS, .inr (2, [.ref aF, .ref aC, .long pat, .long goal])), (aK, .inl (cI, 6, .inl ks))]) (w1 := [(aF, .inr (0, [.ref aK, .int made, .int mac]))]) hP hD [1] [0, 2] rfl rfl (by decide) (by decide) hk1 hFc hP1 hD1
        have hP := hP.sub (ws' := [(aS, .inr (2, [.ref aF, .ref aC, .long pat, .long goal])), (aF, .inr (0, [.ref aK, .int made, .int mac])), (aK, .inl (cI, 6, .inl ks))]) [0, 2, 1] rfl
        have hD := hD.sub (ws' := [(aS, .inr (2, [.ref aF, .ref aC, .long pat, .long goal])), (aF, .inr (0, [.ref aK, .int made, .int mac])), (aK, .inl (cI, 6, .inl ks))]) [0, 2, 1] (by decide) rfl
        generalize H1 = H at hP hS ⊢
        refine lv_goto (tgt := 36) hx hb dX3_makeFold_26 (by decide) ?_
        exact hq _ _ _ hP hD hS (lv_sub hl [0, 1] rfl)
    · have hq := hq.2 hc
      exact hq _ _ _ hP hD hS (lv_sub hl [] rfl)
set_option maxRecDepth 20000 in
theorem kwX3_takeFoldBack_12 : Cond.fieldLink RX3 12 "PunchedFolds$Sheet" "folding" "LPunchedFolds$Folding;" ∈ wsX3_takeFoldBack := by decide +kernel
set_option maxRecDepth 20000 in
theorem iwX3_takeFoldBack_X3 : ∀ w ∈ wsX30, w ∈ wsX3_takeFoldBack := by decide +kernel
set_option maxRecDepth 20000 in
theorem kwX3_takeFoldBack_57 : Cond.fieldLink RX3 57 "PunchedFolds$Folding" "made" "I" ∈ wsX3_takeFoldBack := by decide +kernel
set_option maxRecDepth 20000 in
theorem iwX3_takeFoldBack_X0 : ∀ w ∈ wsX00, w ∈ wsX3_takeFoldBack := by decide +kernel
set_option maxHeartbeats 4000000 in
set_option maxRecDepth 100000 in
theorem c_X3_takeFoldBack (l : Launch) (dC : Nat → ClassId) (dI : Nat → Nat → Nat) (cI cC cS : ClassId) (aS : Nat) (aC : Nat) (aF : Nat) (aK : Nat) (sz : Nat) (pat : Int64) (goal : Int64) (made : Int32) (mac : Int32) (ks : Nat → Int32) {post : Int32 → Int32 → Int32 → Prop} (hq : wp_X3_takeFoldBack made mac ks post) : Met l yX3_takeFoldBack wsX3_takeFoldBack ({ frames := 2, cells := 0, slots := 0, locals := 42 } : Room) (gn_Pre (dC, dI) cI cC cS [.ref aS] sz [(aS, .inr (2, [.ref aF, .ref aC, .long pat, .long goal])), (aF, .inr (0, [.ref aK, .int made, .int mac])), (aK, .inl (cI, 6, .inl ks))]) (va_Qi (fun (r : Int32) (u : Int32 × Int32) => post r u.1 u.2) (fun (u : Int32 × Int32) t => va_P (dC, dI) vwCl [(aS, .inr (2, [.ref aF, .ref aC, .long pat, .long goal])), (aF, .inr (0, [.ref aK, .int u.1, .int u.2])), (aK, .inl (cI, 6, .inl ks))] t.heap ∧ va_K (dC, dI) vwCl (gn_tys cI cC cS) t ∧ va_D (va_A [(aS, .inr (2, [.ref aF, .ref aC, .long pat, .long goal])), (aF, .inr (0, [.ref aK, .int made, .int mac])), (aK, .inl (cI, 6, .inl ks))] sz) [(aS, .inr (2, [.ref aF, .ref aC, .long pat, .long goal])), (aF, .inr (0, [.ref aK, .int u.1, .int u.2])), (aK, .inl (cI, 6, .inl ks))]) (va_A [(aS, .inr (2, [.ref aF, .ref aC, .long pat, .long goal])), (aF, .inr (0, [.ref aK, .int made, .int mac])), (aK, .inl (cI, 6, .inl ks))] sz)) 0 0 (va_A [(aS, .inr (2, [.ref aF, .ref aC, .long pat, .long goal])), (aF, .inr (0, [.ref aK, .int made, .int mac])), (aK, .inl (cI, 6, .inl ks))] sz) := by
  unfold wp_X3_takeFoldBack at hq
  refine Met.ofW (cc := cX3_takeFoldBack) (maxL := 1) (ret := (some .int)) (by decide) rfl ?_
  intro p e s m args below meth c s₁ B hml hv
  obtain ⟨rfl, hsz, hP, hK, hN, hD0⟩ := hv
  have hx := B.exec
  have hb := B.bytes
  have hr := B.returns
  have hts := atoms_spec (ws := wsX3_takeFoldBack) B.pre
  have hown : s.vm.findClass RX3 = some m.cls := findClass_of_methodNamed B.named
  have hlocks := B.notSynchronized
  subst hsz
  have hD := hD0.self (sz := s.heap.size)
  generalize hAe : va_A [(aS, .inr (2, [.ref aF, .ref aC, .long pat, .long goal])), (aF, .inr (0, [.ref aK, .int made, .int mac])), (aK, .inl (cI, 6, .inl ks))] s.heap.size = A at hD ⊢
  have hA : ∀ q : Nat, s.heap.size ≤ q → A q := fun q h => by rw [← hAe]; exact Or.inr h
  have hS : va_S A s.heap s.heap [] := va_S.rf
  have hl := lv_entry ([.ref aS] : List Value) (n := 1) (Nat.le_of_ble_eq_true rfl)
  rw [lg_entry_eq]
  generalize (lg_sl ([.ref aS] : List Value) ++ List.replicate (1 - (lg_sl ([.ref aS] : List Value)).length) Slot.unset).toArray = ls at hl ⊢
  have hl : lv_has ls 1 [(0, .ref aS)] := hl
  refine gn_Q (hret := fun Q => ∀ (pc : Nat) (ls : Array Slot) (H : Heap) (locs : List Loc) (r : Int32) (m_made : Int32) (m_mac : Int32), decode cX3_takeFoldBack pc = .ok (.ireturn, 1) → va_P (dC, dI) vwCl [(aS, .inr (2, [.ref aF, .ref aC, .long pat, .long goal])), (aF, .inr (0, [.ref aK, .int m_made, .int m_mac])), (aK, .inl (cI, 6, .inl ks))] H → va_D A [(aS, .inr (2, [.ref aF, .ref aC, .long pat, .long goal])), (aF, .inr (0, [.ref aK, .int m_made, .int m_mac])), (aK, .inl (cI, 6, .inl ks))] → va_S A s.heap H locs → post r m_made m_mac → W p l e ({ frames := 2, cells := 0, slots := 0, locals := 42 } : Room) s m ([.ref aS] : List Value).toArray below meth c H locs 0 0 Q (F0 m pc ls [.int r])) (fun Q hret => ?_) ?_
  rotate_left
  · intro pc ls H locs r m_made m_mac hdg hP hD hS hpost
    exact W.iret (v := r) hx hb hr (fun t ht hW => ⟨⟨r, (m_made, m_mac), rfl, hpost, by rw [ht]; exact hP, va_K.moved hW.alike hK, hD⟩, hS.F ht⟩) hS.2.2 hdg
  refine lv_aload_n hx hb dX3_takeFoldBack_0 rfl (lv_at hl 0 rfl) ?_
  refine va_get (D := (dC, dI)) (ci := 2) (v := .ref aF) (C := RX3) (T := TX3) (N := 4) hx hb hts iwX3_takeFoldBack_X3 hown hK hP 0 rfl rfl 0 (by decide) (hts _ kwX3_takeFoldBack_12) (fun _ h9 => h9) rfl dX3_takeFoldBack_1 ?_
  refine va_get (D := (dC, dI)) (ci := 0) (v := .int made) (C := RX0) (T := TX0) (N := 3) hx hb hts iwX3_takeFoldBack_X0 hown hK hP 1 rfl rfl 1 (by decide) (hts _ kwX3_takeFoldBack_57) (fun _ h9 => h9) rfl dX3_takeFoldBack_4 ?_
  refine lv_if_le (tgt := 20) hx hb dX3_takeFoldBack_7 (by decide) (fun hc => ?_) (fun hc => ?_)
  · have hq := hq.1 hc
    refine lv_bipush (v := -3) hx hb dX3_takeFoldBack_20 (by decide) ?_
    exact hret _ _ _ _ _ _ _ dX3_takeFoldBack_22 hP hD hS hq
  · have hq := hq.2 hc
    refine lv_aload_n hx hb dX3_takeFoldBack_10 rfl (lv_at hl 0 rfl) ?_
    refine va_get (D := (dC, dI)) (ci := 2) (v := .ref aF) (C := RX3) (T := TX3) (N := 4) hx hb hts iwX3_takeFoldBack_X3 hown hK hP 0 rfl rfl 0 (by decide) (hts _ kwX3_takeFoldBack_12) (fun _ h9 => h9) rfl dX3_takeFoldBack_11 ?_
    have hPc := hP.sub (ws' := [(aF, .inr (0, [.ref aK, .int made, .int mac])), (aK, .inl (cI, 6, .inl ks))]) [1, 2] rfl
    have hDc := hD.sub (ws' := [(aF, .inr (0, [.ref aK, .int made, .int mac])), (aK, .inl (cI, 6, .inl ks))]) [1, 2] (by decide) rfl
    have hFc := va_free (wc := [(aF, .inr (0, [.ref aK, .int made, .int mac])), (aK, .inl (cI, 6, .inl ks))]) hD hS hA [1, 2] rfl
    refine va_calli (va_runV (As := []) (rest := []) ⟨hx, hb, hml, hown, hts⟩ (c_X0_takeLatestBack l dC dI cI cC cS aF aK _ made mac ks hq) (cwV 0 hts gX3_takeFoldBack_X0_takeLatestBack rfl rfl rfl (by decide +kernel) ⟨Nat.le_of_ble_eq_true rfl, Nat.le_of_ble_eq_true rfl⟩) (gn_preV hPc hK hN hDc (ci := 0) (q0 := 0) rfl rfl) rfl rfl hl.1 rfl (lv_room (Nat.le_of_ble_eq_true rfl)) dX3_takeFoldBack_14 ⟨Nat.zero_le _, Nat.zero_le _⟩) hS (fun q _ h => hFc q h) hFc (fun r_1 u t H1 locs ht hvm hq hB hz1 hk1 hS => ?_)
    obtain ⟨made__2, mac__3⟩ := u
    obtain ⟨hP1, hK1, hD1⟩ := hB
    rw [ht] at hP1
    try dsimp only at hq
    obtain ⟨hP, hD⟩ := va_join (wr := [(aS, .inr (2, [.ref aF, .ref aC, .long pat, .long goal]))]) (w1 := [(aF, .inr (0, [.ref aK, .int made__2, .int mac__3])), (aK, .inl (cI, 6, .inl ks))]) hP hD [1, 2] [0] rfl rfl (by decide) (by decide) hk1 hFc hP1 hD1
    have hP := hP.sub (ws' := [(aS, .inr (2, [.ref aF, .ref aC, .long pat, .long goal])), (aF, .inr (0, [.ref aK, .int made__2, .int mac__3])), (aK, .inl (cI, 6, .inl ks))]) [0, 1, 2] rfl
    have hD := hD.sub (ws' := [(aS, .inr (2, [.ref aF, .ref aC, .long pat, .long goal])), (aF, .inr (0, [.ref aK, .int made__2, .int mac__3])), (aK, .inl (cI, 6, .inl ks))]) [0, 1, 2] (by decide) rfl
    generalize H1 = H at hP hS ⊢
    refine lv_goto (tgt := 22) hx hb dX3_takeFoldBack_17 (by decide) ?_
    exact hret _ _ _ _ _ _ _ dX3_takeFoldBack_22 hP hD hS hq
set_option maxRecDepth 20000 in
theorem kwX3_takeAllFoldsBack_12 : Cond.fieldLink RX3 12 "PunchedFolds$Sheet" "folding" "LPunchedFolds$Folding;" ∈ wsX3_takeAllFoldsBack := by decide +kernel
set_option maxRecDepth 20000 in
theorem iwX3_takeAllFoldsBack_X3 : ∀ w ∈ wsX30, w ∈ wsX3_takeAllFoldsBack := by decide +kernel
set_option maxRecDepth 20000 in
theorem kwX3_takeAllFoldsBack_57 : Cond.fieldLink RX3 57 "PunchedFolds$Folding" "made" "I" ∈ wsX3_takeAllFoldsBack := by decide +kernel
set_option maxRecDepth 20000 in
theorem iwX3_takeAllFoldsBack_X0 : ∀ w ∈ wsX00, w ∈ wsX3_takeAllFoldsBack := by decide +kernel
set_option maxHeartbeats 4000000 in
set_option maxRecDepth 100000 in
theorem c_X3_takeAllFoldsBack (l : Launch) (dC : Nat → ClassId) (dI : Nat → Nat → Nat) (cI cC cS : ClassId) (aS : Nat) (aC : Nat) (aF : Nat) (aK : Nat) (sz : Nat) (pat : Int64) (goal : Int64) (made : Int32) (mac : Int32) {post : Int32 → Int32 → Int32 → Prop} (hq : wp_X3_takeAllFoldsBack made mac post) : Met l yX3_takeAllFoldsBack wsX3_takeAllFoldsBack ({ frames := 1, cells := 0, slots := 0, locals := 20 } : Room) (gn_Pre (dC, dI) cI cC cS [.ref aS] sz [(aS, .inr (2, [.ref aF, .ref aC, .long pat, .long goal])), (aF, .inr (0, [.ref aK, .int made, .int mac]))]) (va_Qi (fun (r : Int32) (u : Int32 × Int32) => post r u.1 u.2) (fun (u : Int32 × Int32) t => va_P (dC, dI) vwCl [(aS, .inr (2, [.ref aF, .ref aC, .long pat, .long goal])), (aF, .inr (0, [.ref aK, .int u.1, .int u.2]))] t.heap ∧ va_K (dC, dI) vwCl (gn_tys cI cC cS) t ∧ va_D (va_A [(aS, .inr (2, [.ref aF, .ref aC, .long pat, .long goal])), (aF, .inr (0, [.ref aK, .int made, .int mac]))] sz) [(aS, .inr (2, [.ref aF, .ref aC, .long pat, .long goal])), (aF, .inr (0, [.ref aK, .int u.1, .int u.2]))]) (va_A [(aS, .inr (2, [.ref aF, .ref aC, .long pat, .long goal])), (aF, .inr (0, [.ref aK, .int made, .int mac]))] sz)) 0 0 (va_A [(aS, .inr (2, [.ref aF, .ref aC, .long pat, .long goal])), (aF, .inr (0, [.ref aK, .int made, .int mac]))] sz) := by
  unfold wp_X3_takeAllFoldsBack at hq
  refine Met.ofW (cc := cX3_takeAllFoldsBack) (maxL := 2) (ret := (some .int)) (by decide) rfl ?_
  intro p e s m args below meth c s₁ B hml hv
  obtain ⟨rfl, hsz, hP, hK, hN, hD0⟩ := hv
  have hx := B.exec
  have hb := B.bytes
  have hr := B.returns
  have hts := atoms_spec (ws := wsX3_takeAllFoldsBack) B.pre
  have hown : s.vm.findClass RX3 = some m.cls := findClass_of_methodNamed B.named
  have hlocks := B.notSynchronized
  subst hsz
  have hD := hD0.self (sz := s.heap.size)
  generalize hAe : va_A [(aS, .inr (2, [.ref aF, .ref aC, .long pat, .long goal])), (aF, .inr (0, [.ref aK, .int made, .int mac]))] s.heap.size = A at hD ⊢
  have hA : ∀ q : Nat, s.heap.size ≤ q → A q := fun q h => by rw [← hAe]; exact Or.inr h
  have hS : va_S A s.heap s.heap [] := va_S.rf
  have hl := lv_entry ([.ref aS] : List Value) (n := 2) (Nat.le_of_ble_eq_true rfl)
  rw [lg_entry_eq]
  generalize (lg_sl ([.ref aS] : List Value) ++ List.replicate (2 - (lg_sl ([.ref aS] : List Value)).length) Slot.unset).toArray = ls at hl ⊢
  have hl : lv_has ls 2 [(0, .ref aS)] := hl
  refine gn_Q (hret := fun Q => ∀ (pc : Nat) (ls : Array Slot) (H : Heap) (locs : List Loc) (r : Int32) (m_made : Int32) (m_mac : Int32), decode cX3_takeAllFoldsBack pc = .ok (.ireturn, 1) → va_P (dC, dI) vwCl [(aS, .inr (2, [.ref aF, .ref aC, .long pat, .long goal])), (aF, .inr (0, [.ref aK, .int m_made, .int m_mac]))] H → va_D A [(aS, .inr (2, [.ref aF, .ref aC, .long pat, .long goal])), (aF, .inr (0, [.ref aK, .int m_made, .int m_mac]))] → va_S A s.heap H locs → post r m_made m_mac → W p l e ({ frames := 1, cells := 0, slots := 0, locals := 20 } : Room) s m ([.ref aS] : List Value).toArray below meth c H locs 0 0 Q (F0 m pc ls [.int r])) (fun Q hret => ?_) ?_
  rotate_left
  · intro pc ls H locs r m_made m_mac hdg hP hD hS hpost
    exact W.iret (v := r) hx hb hr (fun t ht hW => ⟨⟨r, (m_made, m_mac), rfl, hpost, by rw [ht]; exact hP, va_K.moved hW.alike hK, hD⟩, hS.F ht⟩) hS.2.2 hdg
  refine lv_aload_n hx hb dX3_takeAllFoldsBack_0 rfl (lv_at hl 0 rfl) ?_
  refine va_get (D := (dC, dI)) (ci := 2) (v := .ref aF) (C := RX3) (T := TX3) (N := 4) hx hb hts iwX3_takeAllFoldsBack_X3 hown hK hP 0 rfl rfl 0 (by decide) (hts _ kwX3_takeAllFoldsBack_12) (fun _ h9 => h9) rfl dX3_takeAllFoldsBack_1 ?_
  refine va_get (D := (dC, dI)) (ci := 0) (v := .int made) (C := RX0) (T := TX0) (N := 3) hx hb hts iwX3_takeAllFoldsBack_X0 hown hK hP 1 rfl rfl 1 (by decide) (hts _ kwX3_takeAllFoldsBack_57) (fun _ h9 => h9) rfl dX3_takeAllFoldsBack_4 ?_
  refine lv_istore_n (lv' := [(1, .int made), (0, .ref aS)]) hx hb dX3_takeAllFoldsBack_7 rfl hl (by decide) rfl (fun ls hl => ?_)
  refine lv_aload_n hx hb dX3_takeAllFoldsBack_8 rfl (lv_at hl 1 rfl) ?_
  refine va_get (D := (dC, dI)) (ci := 2) (v := .ref aF) (C := RX3) (T := TX3) (N := 4) hx hb hts iwX3_takeAllFoldsBack_X3 hown hK hP 0 rfl rfl 0 (by decide) (hts _ kwX3_takeAllFoldsBack_12) (fun _ h9 => h9) rfl dX3_takeAllFoldsBack_9 ?_
  have hPc := hP.sub (ws' := [(aF, .inr (0, [.ref aK, .int made, .int mac]))]) [1] rfl
  have hDc := hD.sub (ws' := [(aF, .inr (0, [.ref aK, .int made, .int mac]))]) [1] (by decide) rfl
  have hFc := va_free (wc := [(aF, .inr (0, [.ref aK, .int made, .int mac]))]) hD hS hA [1] rfl
  refine va_callv (va_runV (As := []) (rest := []) ⟨hx, hb, hml, hown, hts⟩ (c_X0_takeAllBack l dC dI cI cC cS aF aK _ made mac hq) (cwV 0 hts gX3_takeAllFoldsBack_X0_takeAllBack rfl rfl rfl (by decide +kernel) ⟨Nat.le_of_ble_eq_true rfl, Nat.le_of_ble_eq_true rfl⟩) (gn_preV hPc hK hN hDc (ci := 0) (q0 := 0) rfl rfl) rfl rfl hl.1 rfl (lv_room (Nat.le_of_ble_eq_true rfl)) dX3_takeAllFoldsBack_12 ⟨Nat.zero_le _, Nat.zero_le _⟩) hS (fun q _ h => hFc q h) hFc (fun u t H1 locs ht hvm hq hB hz1 hk1 hS => ?_)
  obtain ⟨made__1, mac__2⟩ := u
  obtain ⟨hP1, hK1, hD1⟩ := hB
  rw [ht] at hP1
  try dsimp only at hq
  obtain ⟨hP, hD⟩ := va_join (wr := [(aS, .inr (2, [.ref aF, .ref aC, .long pat, .long goal]))]) (w1 := [(aF, .inr (0, [.ref aK, .int made__1, .int mac__2]))]) hP hD [1] [0] rfl rfl (by decide) (by decide) hk1 hFc hP1 hD1
  have hP := hP.sub (ws' := [(aS, .inr (2, [.ref aF, .ref aC, .long pat, .long goal])), (aF, .inr (0, [.ref aK, .int made__1, .int mac__2]))]) [0, 1] rfl
  have hD := hD.sub (ws' := [(aS, .inr (2, [.ref aF, .ref aC, .long pat, .long goal])), (aF, .inr (0, [.ref aK, .int made__1, .int mac__2]))]) [0, 1] (by decide) rfl
  generalize H1 = H at hP hS ⊢
  refine lv_iload_n hx hb dX3_takeAllFoldsBack_15 rfl (lv_at hl 0 rfl) ?_
  exact hret _ _ _ _ _ _ _ dX3_takeAllFoldsBack_16 hP hD hS hq
set_option maxRecDepth 20000 in
theorem kwX3_makeHoles_12 : Cond.fieldLink RX3 12 "PunchedFolds$Sheet" "folding" "LPunchedFolds$Folding;" ∈ wsX3_makeHoles := by decide +kernel
set_option maxRecDepth 20000 in
theorem iwX3_makeHoles_X3 : ∀ w ∈ wsX30, w ∈ wsX3_makeHoles := by decide +kernel
set_option maxRecDepth 20000 in
theorem kwX3_makeHoles_22 : Cond.fieldLink RX3 22 "PunchedFolds$Sheet" "pattern" "J" ∈ wsX3_makeHoles := by decide +kernel
set_option maxHeartbeats 4000000 in
set_option maxRecDepth 100000 in
theorem c_X3_makeHoles (l : Launch) (dC : Nat → ClassId) (dI : Nat → Nat → Nat) (cI cC cS : ClassId) (aS : Nat) (aC : Nat) (aF : Nat) (aK : Nat) (sz : Nat) (pat : Int64) (goal : Int64) (made : Int32) (mac : Int32) (ks : Nat → Int32) (x1 : Int32) (x2 : Int32) (x3 : Int32) {post : Int32 → Int64 → Prop} (hq : wp_X3_makeHoles pat made mac ks x1 x2 x3 post) : Met l yX3_makeHoles wsX3_makeHoles ({ frames := 3, cells := 0, slots := 0, locals := 84 } : Room) (gn_Pre (dC, dI) cI cC cS [.ref aS, .int x1, .int x2, .int x3] sz [(aS, .inr (2, [.ref aF, .ref aC, .long pat, .long goal])), (aF, .inr (0, [.ref aK, .int made, .int mac])), (aK, .inl (cI, 6, .inl ks))]) (va_Qi (fun (r : Int32) (u : Int64) => post r u) (fun (u : Int64) t => va_P (dC, dI) vwCl [(aS, .inr (2, [.ref aF, .ref aC, .long u, .long goal])), (aF, .inr (0, [.ref aK, .int made, .int mac])), (aK, .inl (cI, 6, .inl ks))] t.heap ∧ va_K (dC, dI) vwCl (gn_tys cI cC cS) t ∧ va_D (va_A [(aS, .inr (2, [.ref aF, .ref aC, .long pat, .long goal])), (aF, .inr (0, [.ref aK, .int made, .int mac])), (aK, .inl (cI, 6, .inl ks))] sz) [(aS, .inr (2, [.ref aF, .ref aC, .long u, .long goal])), (aF, .inr (0, [.ref aK, .int made, .int mac])), (aK, .inl (cI, 6, .inl ks))]) (va_A [(aS, .inr (2, [.ref aF, .ref aC, .long pat, .long goal])), (aF, .inr (0, [.ref aK, .int made, .int mac])), (aK, .inl (cI, 6, .inl ks))] sz)) 0 0 (va_A [(aS, .inr (2, [.ref aF, .ref aC, .long pat, .long goal])), (aF, .inr (0, [.ref aK, .int made, .int mac])), (aK, .inl (cI, 6, .inl ks))] sz) := by
  unfold wp_X3_makeHoles at hq
  refine Met.ofW (cc := cX3_makeHoles) (maxL := 5) (ret := (some .int)) (by decide) rfl ?_
  intro p e s m args below meth c s₁ B hml hv
  obtain ⟨rfl, hsz, hP, hK, hN, hD0⟩ := hv
  have hx := B.exec
  have hb := B.bytes
  have hr := B.returns
  have hts := atoms_spec (ws := wsX3_makeHoles) B.pre
  have hown : s.vm.findClass RX3 = some m.cls := findClass_of_methodNamed B.named
  have hlocks := B.notSynchronized
  subst hsz
  have hD := hD0.self (sz := s.heap.size)
  generalize hAe : va_A [(aS, .inr (2, [.ref aF, .ref aC, .long pat, .long goal])), (aF, .inr (0, [.ref aK, .int made, .int mac])), (aK, .inl (cI, 6, .inl ks))] s.heap.size = A at hD ⊢
  have hA : ∀ q : Nat, s.heap.size ≤ q → A q := fun q h => by rw [← hAe]; exact Or.inr h
  have hS : va_S A s.heap s.heap [] := va_S.rf
  have hl := lv_entry ([.ref aS, .int x1, .int x2, .int x3] : List Value) (n := 5) (Nat.le_of_ble_eq_true rfl)
  rw [lg_entry_eq]
  generalize (lg_sl ([.ref aS, .int x1, .int x2, .int x3] : List Value) ++ List.replicate (5 - (lg_sl ([.ref aS, .int x1, .int x2, .int x3] : List Value)).length) Slot.unset).toArray = ls at hl ⊢
  have hl : lv_has ls 5 [(0, .ref aS), (1, .int x1), (2, .int x2), (3, .int x3)] := hl
  refine gn_Q (hret := fun Q => ∀ (pc : Nat) (ls : Array Slot) (H : Heap) (locs : List Loc) (r : Int32) (m_pat : Int64), decode cX3_makeHoles pc = .ok (.ireturn, 1) → va_P (dC, dI) vwCl [(aS, .inr (2, [.ref aF, .ref aC, .long m_pat, .long goal])), (aF, .inr (0, [.ref aK, .int made, .int mac])), (aK, .inl (cI, 6, .inl ks))] H → va_D A [(aS, .inr (2, [.ref aF, .ref aC, .long m_pat, .long goal])), (aF, .inr (0, [.ref aK, .int made, .int mac])), (aK, .inl (cI, 6, .inl ks))] → va_S A s.heap H locs → post r m_pat → W p l e ({ frames := 3, cells := 0, slots := 0, locals := 84 } : Room) s m ([.ref aS, .int x1, .int x2, .int x3] : List Value).toArray below meth c H locs 0 0 Q (F0 m pc ls [.int r])) (fun Q hret => ?_) ?_
  rotate_left
  · intro pc ls H locs r m_pat hdg hP hD hS hpost
    exact W.iret (v := r) hx hb hr (fun t ht hW => ⟨⟨r, m_pat, rfl, hpost, by rw [ht]; exact hP, va_K.moved hW.alike hK, hD⟩, hS.F ht⟩) hS.2.2 hdg
  refine lv_aload_n hx hb dX3_makeHoles_0 rfl (lv_at hl 0 rfl) ?_
  refine va_get (D := (dC, dI)) (ci := 2) (v := .ref aF) (C := RX3) (T := TX3) (N := 4) hx hb hts iwX3_makeHoles_X3 hown hK hP 0 rfl rfl 0 (by decide) (hts _ kwX3_makeHoles_12) (fun _ h9 => h9) rfl dX3_makeHoles_1 ?_
  refine lv_iload_n hx hb dX3_makeHoles_4 rfl (lv_at hl 1 rfl) ?_
  refine lv_iload_n hx hb dX3_makeHoles_5 rfl (lv_at hl 2 rfl) ?_
  have hPc := hP.sub (ws' := [(aF, .inr (0, [.ref aK, .int made, .int mac]))]) [1] rfl
  have hDc := hD.sub (ws' := [(aF, .inr (0, [.ref aK, .int made, .int mac]))]) [1] (by decide) rfl
  have hFc := va_free (wc := [(aF, .inr (0, [.ref aK, .int made, .int mac]))]) hD hS hA [1] rfl
  refine va_calli (va_runV (As := [.int x1, .int x2]) (rest := []) ⟨hx, hb, hml, hown, hts⟩ (c_X0_hasField l dC dI cI cC cS aF aK _ made mac x1 x2 hq) (cwV 2 hts gX3_makeHoles_X0_hasField rfl rfl rfl (by decide +kernel) ⟨Nat.le_of_ble_eq_true rfl, Nat.le_of_ble_eq_true rfl⟩) (gn_preV hPc hK hN hDc (ci := 0) (q0 := 0) rfl rfl) rfl rfl hl.1 rfl (lv_room (Nat.le_of_ble_eq_true rfl)) dX3_makeHoles_6 ⟨Nat.zero_le _, Nat.zero_le _⟩) hS (fun q _ h => hFc q h) hFc (fun r_1 u t H1 locs ht hvm hq hB hz1 hk1 hS => ?_)
  obtain ⟨hP1, hK1, hD1⟩ := hB
  rw [ht] at hP1
  try dsimp only at hq
  obtain ⟨hP, hD⟩ := va_join (wr := [(aS, .inr (2, [.ref aF, .ref aC, .long pat, .long goal])), (aK, .inl (cI, 6, .inl ks))]) (w1 := [(aF, .inr (0, [.ref aK, .int made, .int mac]))]) hP hD [1] [0, 2] rfl rfl (by decide) (by decide) hk1 hFc hP1 hD1
  have hP := hP.sub (ws' := [(aS, .inr (2, [.ref aF, .ref aC, .long pat, .long goal])), (aF, .inr (0, [.ref aK, .int made, .int mac])), (aK, .inl (cI, 6, .inl ks))]) [0, 2, 1] rfl
  have hD := hD.sub (ws' := [(aS, .inr (2, [.ref aF, .ref aC, .long pat, .long goal])), (aF, .inr (0, [.ref aK, .int made, .int mac])), (aK, .inl (cI, 6, .inl ks))]) [0, 2, 1] (by decide) rfl
  generalize H1 = H at hP hS ⊢
  refine lv_if_ne (tgt := 14) hx hb dX3_makeHoles_9 (by decide) (fun hc => ?_) (fun hc => ?_)
  · have hq := hq.1 hc
    refine lv_iload_n hx hb dX3_makeHoles_14 rfl (lv_at hl 3 rfl) ?_
    refine lv_iconst (v := 1) hx hb dX3_makeHoles_15 (by decide) ?_
    have hq := hq (∀ (H : Heap) (locs : List Loc) (ls : Array Slot), va_P (dC, dI) vwCl [(aS, .inr (2, [.ref aF, .ref aC, .long pat, .long goal])), (aF, .inr (0, [.ref aK, .int made, .int mac])), (aK, .inl (cI, 6, .inl ks))] H → va_D A [(aS, .inr (2, [.ref aF, .ref aC, .long pat, .long goal])), (aF, .inr (0, [.ref aK, .int made, .int mac])), (aK, .inl (cI, 6, .inl ks))] → va_S A s.heap H locs → lv_has ls 5 [] → W p l e ({ frames := 3, cells := 0, slots := 0, locals := 84 } : Room) s m ([.ref aS, .int x1, .int x2, .int x3] : List Value).toArray below meth c H locs 0 0 Q (F0 m 30 ls [])) (by
      intro  hq H locs ls hP hD hS hl
      refine lv_bipush (v := -2) hx hb dX3_makeHoles_30 (by decide) ?_
      exact hret _ _ _ _ _ _ dX3_makeHoles_32 hP hD hS hq)
    refine lv_icmp_lt (tgt := 30) hx hb dX3_makeHoles_16 (by decide) (fun hc => ?_) (fun hc => ?_)
    · have hq := hq.1 hc
      exact hq _ _ _ hP hD hS (lv_sub hl [] rfl)
    · have hq := hq.2 hc
      refine lv_iload_n hx hb dX3_makeHoles_19 rfl (lv_at hl 3 rfl) ?_
      refine lv_aload_n hx hb dX3_makeHoles_20 rfl (lv_at hl 0 rfl) ?_
      refine va_get (D := (dC, dI)) (ci := 2) (v := .ref aF) (C := RX3) (T := TX3) (N := 4) hx hb hts iwX3_makeHoles_X3 hown hK hP 0 rfl rfl 0 (by decide) (hts _ kwX3_makeHoles_12) (fun _ h9 => h9) rfl dX3_makeHoles_21 ?_
      have hPc := hP.sub (ws' := [(aF, .inr (0, [.ref aK, .int made, .int mac]))]) [1] rfl
      have hDc := hD.sub (ws' := [(aF, .inr (0, [.ref aK, .int made, .int mac]))]) [1] (by decide) rfl
      have hFc := va_free (wc := [(aF, .inr (0, [.ref aK, .int made, .int mac]))]) hD hS hA [1] rfl
      refine va_calli (va_runV (As := []) (rest := [.int x3]) ⟨hx, hb, hml, hown, hts⟩ (c_X0_layers l dC dI cI cC cS aF aK _ made mac hq) (cwV 0 hts gX3_makeHoles_X0_layers rfl rfl rfl (by decide +kernel) ⟨Nat.le_of_ble_eq_true rfl, Nat.le_of_ble_eq_true rfl⟩) (gn_preV hPc hK hN hDc (ci := 0) (q0 := 0) rfl rfl) rfl rfl hl.1 rfl (lv_room (Nat.le_of_ble_eq_true rfl)) dX3_makeHoles_24 ⟨Nat.zero_le _, Nat.zero_le _⟩) hS (fun q _ h => hFc q h) hFc (fun r_2 u t H1 locs ht hvm hq hB hz1 hk1 hS => ?_)
      obtain ⟨hP1, hK1, hD1⟩ := hB
      rw [ht] at hP1
      try dsimp only at hq
      obtain ⟨hP, hD⟩ := va_join (wr := [(aS, .inr (2, [.ref aF, .ref aC, .long pat, .long goal])), (aK, .inl (cI, 6, .inl ks))]) (w1 := [(aF, .inr (0, [.ref aK, .int made, .int mac]))]) hP hD [1] [0, 2] rfl rfl (by decide) (by decide) hk1 hFc hP1 hD1
      have hP := hP.sub (ws' := [(aS, .inr (2, [.ref aF, .ref aC, .long pat, .long goal])), (aF, .inr (0, [.ref aK, .int made, .int mac])), (aK, .inl (cI, 6, .inl ks))]) [0, 2, 1] rfl
      have hD := hD.sub (ws' := [(aS, .inr (2, [.ref aF, .ref aC, .long pat, .long goal])), (aF, .inr (0, [.ref aK, .int made, .int mac])), (aK, .inl (cI, 6, .inl ks))]) [0, 2, 1] (by decide) rfl
      generalize H1 = H at hP hS ⊢
      refine lv_icmp_le (tgt := 33) hx hb dX3_makeHoles_27 (by decide) (fun hc => ?_) (fun hc => ?_)
      · have hq := hq.1 hc
        refine lv_aload_n hx hb dX3_makeHoles_33 rfl (lv_at hl 0 rfl) ?_
        refine va_get (D := (dC, dI)) (ci := 2) (v := .long pat) (C := RX3) (T := TX3) (N := 4) hx hb hts iwX3_makeHoles_X3 hown hK hP 0 rfl rfl 2 (by decide) (hts _ kwX3_makeHoles_22) (fun _ h9 => h9) rfl dX3_makeHoles_34 ?_
        have hPc := hP.sub (ws' := []) [] rfl
        have hDc := hD.sub (ws' := []) [] (by decide) rfl
        have hFc := va_free (wc := []) hD hS hA [] rfl
        refine va_calli (va_runS (As := [.long pat]) (rest := []) ⟨hx, hb, hml, hown, hts⟩ (c_J13_bitCount_95d88 l dC dI cI cC cS _ pat hq) (va_cwS 1 hts gX3_makeHoles_J13_bitCount_95d88 rfl rfl rfl (by decide +kernel) ⟨Nat.le_of_ble_eq_true rfl, Nat.le_of_ble_eq_true rfl⟩) (gn_preS hPc hK hN hDc) rfl rfl hl.1 rfl (lv_room (Nat.le_of_ble_eq_true rfl)) dX3_makeHoles_37 ⟨Nat.zero_le _, Nat.zero_le _⟩) hS (fun q _ h => hFc q h) hFc (fun r_3 u t H1 locs ht hvm hq hB hz1 hk1 hS => ?_)
        obtain ⟨hP1, hK1, hD1⟩ := hB
        rw [ht] at hP1
        try dsimp only at hq
        obtain ⟨hP, hD⟩ := va_join (wr := [(aS, .inr (2, [.ref aF, .ref aC, .long pat, .long goal])), (aF, .inr (0, [.ref aK, .int made, .int mac])), (aK, .inl (cI, 6, .inl ks))]) (w1 := []) hP hD [] [0, 1, 2] rfl rfl (by decide) (by decide) hk1 hFc hP1 hD1
        have hP := hP.sub (ws' := [(aS, .inr (2, [.ref aF, .ref aC, .long pat, .long goal])), (aF, .inr (0, [.ref aK, .int made, .int mac])), (aK, .inl (cI, 6, .inl ks))]) [0, 1, 2] rfl
        have hD := hD.sub (ws' := [(aS, .inr (2, [.ref aF, .ref aC, .long pat, .long goal])), (aF, .inr (0, [.ref aK, .int made, .int mac])), (aK, .inl (cI, 6, .inl ks))]) [0, 1, 2] (by decide) rfl
        generalize H1 = H at hP hS ⊢
        refine lv_istore (lv' := [(4, .int r_3), (0, .ref aS), (1, .int x1), (2, .int x2), (3, .int x3)]) hx hb dX3_makeHoles_40 hl (by decide) rfl (fun ls hl => ?_)
        refine lv_aload_n hx hb dX3_makeHoles_42 rfl (lv_at hl 1 rfl) ?_
        refine lv_dup hx hb dX3_makeHoles_43 rfl ?_
        refine va_get (D := (dC, dI)) (ci := 2) (v := .long pat) (C := RX3) (T := TX3) (N := 4) hx hb hts iwX3_makeHoles_X3 hown hK hP 0 rfl rfl 2 (by decide) (hts _ kwX3_makeHoles_22) (fun _ h9 => h9) rfl dX3_makeHoles_44 ?_
        refine lv_aload_n hx hb dX3_makeHoles_47 rfl (lv_at hl 1 rfl) ?_
        refine va_get (D := (dC, dI)) (ci := 2) (v := .ref aF) (C := RX3) (T := TX3) (N := 4) hx hb hts iwX3_makeHoles_X3 hown hK hP 0 rfl rfl 0 (by decide) (hts _ kwX3_makeHoles_12) (fun _ h9 => h9) rfl dX3_makeHoles_48 ?_
        refine lv_iload_n hx hb dX3_makeHoles_51 rfl (lv_at hl 2 rfl) ?_
        refine lv_iload_n hx hb dX3_makeHoles_52 rfl (lv_at hl 3 rfl) ?_
        refine lv_iload_n hx hb dX3_makeHoles_53 rfl (lv_at hl 4 rfl) ?_
        have hPc := hP.sub (ws' := [(aF, .inr (0, [.ref aK, .int made, .int mac])), (aK, .inl (cI, 6, .inl ks))]) [1, 2] rfl
        have hDc := hD.sub (ws' := [(aF, .inr (0, [.ref aK, .int made, .int mac])), (aK, .inl (cI, 6, .inl ks))]) [1, 2] (by decide) rfl
        have hFc := va_free (wc := [(aF, .inr (0, [.ref aK, .int made, .int mac])), (aK, .inl (cI, 6, .inl ks))]) hD hS hA [1, 2] rfl
        refine va_calll (va_runV (As := [.int x1, .int x2, .int x3]) (rest := [.long pat, .ref aS]) ⟨hx, hb, hml, hown, hts⟩ (c_X0_uppermostCells l dC dI cI cC cS aF aK _ made mac ks x1 x2 x3 hq) (cwV 3 hts gX3_makeHoles_X0_uppermostCells rfl rfl rfl (by decide +kernel) ⟨Nat.le_of_ble_eq_true rfl, Nat.le_of_ble_eq_true rfl⟩) (gn_preV hPc hK hN hDc (ci := 0) (q0 := 0) rfl rfl) rfl rfl hl.1 rfl (lv_room (Nat.le_of_ble_eq_true rfl)) dX3_makeHoles_54 ⟨Nat.zero_le _, Nat.zero_le _⟩) hS (fun q _ h => hFc q h) hFc (fun r_4 u t H1 locs ht hvm hq hB hz1 hk1 hS => ?_)
        obtain ⟨hP1, hK1, hD1⟩ := hB
        rw [ht] at hP1
        try dsimp only at hq
        obtain ⟨hP, hD⟩ := va_join (wr := [(aS, .inr (2, [.ref aF, .ref aC, .long pat, .long goal]))]) (w1 := [(aF, .inr (0, [.ref aK, .int made, .int mac])), (aK, .inl (cI, 6, .inl ks))]) hP hD [1, 2] [0] rfl rfl (by decide) (by decide) hk1 hFc hP1 hD1
        have hP := hP.sub (ws' := [(aS, .inr (2, [.ref aF, .ref aC, .long pat, .long goal])), (aF, .inr (0, [.ref aK, .int made, .int mac])), (aK, .inl (cI, 6, .inl ks))]) [0, 1, 2] rfl
        have hD := hD.sub (ws' := [(aS, .inr (2, [.ref aF, .ref aC, .long pat, .long goal])), (aF, .inr (0, [.ref aK, .int made, .int mac])), (aK, .inl (cI, 6, .inl ks))]) [0, 1, 2] (by decide) rfl
        generalize H1 = H at hP hS ⊢
        refine lv_lor hx hb dX3_makeHoles_57 ?_
        refine va_put (D := (dC, dI)) (ci := 2) (v := .long (pat ||| r_4)) (ty := .long) (C := RX3) (T := TX3) (N := 4) hx hb hts iwX3_makeHoles_X3 tyX3 tyX3_ok nmX3 hown hK hP hD hS 0 rfl rfl 2 (by decide) (hts _ kwX3_makeHoles_22) (fun _ h9 => h9) rfl (by decide +kernel) rfl rfl (Nat.le_of_ble_eq_true rfl) dX3_makeHoles_58 (fun H locs hP hD hS => ?_)
        have hP : va_P (dC, dI) vwCl [(aS, .inr (2, [.ref aF, .ref aC, .long (pat ||| r_4), .long goal])), (aF, .inr (0, [.ref aK, .int made, .int mac])), (aK, .inl (cI, 6, .inl ks))] H := hP
        have hD : va_D A [(aS, .inr (2, [.ref aF, .ref aC, .long (pat ||| r_4), .long goal])), (aF, .inr (0, [.ref aK, .int made, .int mac])), (aK, .inl (cI, 6, .inl ks))] := hD
        refine lv_aload_n hx hb dX3_makeHoles_61 rfl (lv_at hl 1 rfl) ?_
        refine va_get (D := (dC, dI)) (ci := 2) (v := .long (pat ||| r_4)) (C := RX3) (T := TX3) (N := 4) hx hb hts iwX3_makeHoles_X3 hown hK hP 0 rfl rfl 2 (by decide) (hts _ kwX3_makeHoles_22) (fun _ h9 => h9) rfl dX3_makeHoles_62 ?_
        have hPc := hP.sub (ws' := []) [] rfl
        have hDc := hD.sub (ws' := []) [] (by decide) rfl
        have hFc := va_free (wc := []) hD hS hA [] rfl
        refine va_calli (va_runS (As := [.long (pat ||| r_4)]) (rest := []) ⟨hx, hb, hml, hown, hts⟩ (c_J13_bitCount_95d88 l dC dI cI cC cS _ (pat ||| r_4) hq) (va_cwS 1 hts gX3_makeHoles_J13_bitCount_95d88 rfl rfl rfl (by decide +kernel) ⟨Nat.le_of_ble_eq_true rfl, Nat.le_of_ble_eq_true rfl⟩) (gn_preS hPc hK hN hDc) rfl rfl hl.1 rfl (lv_room (Nat.le_of_ble_eq_true rfl)) dX3_makeHoles_65 ⟨Nat.zero_le _, Nat.zero_le _⟩) hS (fun q _ h => hFc q h) hFc (fun r_5 u t H1 locs ht hvm hq hB hz1 hk1 hS => ?_)
        obtain ⟨hP1, hK1, hD1⟩ := hB
        rw [ht] at hP1
        try dsimp only at hq
        obtain ⟨hP, hD⟩ := va_join (wr := [(aS, .inr (2, [.ref aF, .ref aC, .long (pat ||| r_4), .long goal])), (aF, .inr (0, [.ref aK, .int made, .int mac])), (aK, .inl (cI, 6, .inl ks))]) (w1 := []) hP hD [] [0, 1, 2] rfl rfl (by decide) (by decide) hk1 hFc hP1 hD1
        have hP := hP.sub (ws' := [(aS, .inr (2, [.ref aF, .ref aC, .long (pat ||| r_4), .long goal])), (aF, .inr (0, [.ref aK, .int made, .int mac])), (aK, .inl (cI, 6, .inl ks))]) [0, 1, 2] rfl
        have hD := hD.sub (ws' := [(aS, .inr (2, [.ref aF, .ref aC, .long (pat ||| r_4), .long goal])), (aF, .inr (0, [.ref aK, .int made, .int mac])), (aK, .inl (cI, 6, .inl ks))]) [0, 1, 2] (by decide) rfl
        generalize H1 = H at hP hS ⊢
        refine lv_iload hx hb dX3_makeHoles_68 (lv_at hl 0 rfl) ?_
        refine lv_isub hx hb dX3_makeHoles_70 ?_
        exact hret _ _ _ _ _ _ dX3_makeHoles_71 hP hD hS hq
      · have hq := hq.2 hc
        exact hq _ _ _ hP hD hS (lv_sub hl [] rfl)
  · have hq := hq.2 hc
    refine lv_iconst (v := -1) hx hb dX3_makeHoles_12 (by decide) ?_
    exact hret _ _ _ _ _ _ dX3_makeHoles_13 hP hD hS hq
set_option maxRecDepth 20000 in
theorem kwX3_uppermostWhole_12 : Cond.fieldLink RX3 12 "PunchedFolds$Sheet" "folding" "LPunchedFolds$Folding;" ∈ wsX3_uppermostWhole := by decide +kernel
set_option maxRecDepth 20000 in
theorem iwX3_uppermostWhole_X3 : ∀ w ∈ wsX30, w ∈ wsX3_uppermostWhole := by decide +kernel
set_option maxRecDepth 20000 in
theorem kwX3_uppermostWhole_22 : Cond.fieldLink RX3 22 "PunchedFolds$Sheet" "pattern" "J" ∈ wsX3_uppermostWhole := by decide +kernel
set_option maxRecDepth 20000 in
theorem kwX3_uppermostWhole_st_X5_cellOf : Cond.static yX5_cellOf ∈ wsX3_uppermostWhole := by decide +kernel
set_option maxRecDepth 20000 in
theorem kwX3_uppermostWhole_ini_X5 : Cond.initialized RX5 ∈ wsX3_uppermostWhole := by decide +kernel
set_option maxRecDepth 20000 in
theorem kwX3_uppermostWhole_st_X5_hasCell : Cond.static yX5_hasCell ∈ wsX3_uppermostWhole := by decide +kernel
set_option maxHeartbeats 4000000 in
set_option maxRecDepth 100000 in
theorem c_X3_uppermostWhole (l : Launch) (dC : Nat → ClassId) (dI : Nat → Nat → Nat) (cI cC cS : ClassId) (aS : Nat) (aC : Nat) (aF : Nat) (aK : Nat) (sz : Nat) (pat : Int64) (goal : Int64) (made : Int32) (mac : Int32) (ks : Nat → Int32) (x1 : Int32) (x2 : Int32) {post : Int32 → Prop} (hq : wp_X3_uppermostWhole pat made mac ks x1 x2 post) : Met l yX3_uppermostWhole wsX3_uppermostWhole ({ frames := 2, cells := 0, slots := 0, locals := 58 } : Room) (gn_Pre (dC, dI) cI cC cS [.ref aS, .int x1, .int x2] sz [(aS, .inr (2, [.ref aF, .ref aC, .long pat, .long goal])), (aF, .inr (0, [.ref aK, .int made, .int mac])), (aK, .inl (cI, 6, .inl ks))]) (va_Qi (fun (r : Int32) (u : Unit) => post r) (fun (u : Unit) t => va_P (dC, dI) vwCl [(aS, .inr (2, [.ref aF, .ref aC, .long pat, .long goal])), (aF, .inr (0, [.ref aK, .int made, .int mac])), (aK, .inl (cI, 6, .inl ks))] t.heap ∧ va_K (dC, dI) vwCl (gn_tys cI cC cS) t ∧ va_D (va_A [(aS, .inr (2, [.ref aF, .ref aC, .long pat, .long goal])), (aF, .inr (0, [.ref aK, .int made, .int mac])), (aK, .inl (cI, 6, .inl ks))] sz) [(aS, .inr (2, [.ref aF, .ref aC, .long pat, .long goal])), (aF, .inr (0, [.ref aK, .int made, .int mac])), (aK, .inl (cI, 6, .inl ks))]) (va_A [(aS, .inr (2, [.ref aF, .ref aC, .long pat, .long goal])), (aF, .inr (0, [.ref aK, .int made, .int mac])), (aK, .inl (cI, 6, .inl ks))] sz)) 0 0 (va_A [(aS, .inr (2, [.ref aF, .ref aC, .long pat, .long goal])), (aF, .inr (0, [.ref aK, .int made, .int mac])), (aK, .inl (cI, 6, .inl ks))] sz) := by
  unfold wp_X3_uppermostWhole at hq
  refine Met.ofW (cc := cX3_uppermostWhole) (maxL := 6) (ret := (some .int)) (by decide) rfl ?_
  intro p e s m args below meth c s₁ B hml hv
  obtain ⟨rfl, hsz, hP, hK, hN, hD0⟩ := hv
  have hx := B.exec
  have hb := B.bytes
  have hr := B.returns
  have hts := atoms_spec (ws := wsX3_uppermostWhole) B.pre
  have hown : s.vm.findClass RX3 = some m.cls := findClass_of_methodNamed B.named
  have hlocks := B.notSynchronized
  subst hsz
  have hD := hD0.self (sz := s.heap.size)
  generalize hAe : va_A [(aS, .inr (2, [.ref aF, .ref aC, .long pat, .long goal])), (aF, .inr (0, [.ref aK, .int made, .int mac])), (aK, .inl (cI, 6, .inl ks))] s.heap.size = A at hD ⊢
  have hA : ∀ q : Nat, s.heap.size ≤ q → A q := fun q h => by rw [← hAe]; exact Or.inr h
  have hS : va_S A s.heap s.heap [] := va_S.rf
  have hl := lv_entry ([.ref aS, .int x1, .int x2] : List Value) (n := 6) (Nat.le_of_ble_eq_true rfl)
  rw [lg_entry_eq]
  generalize (lg_sl ([.ref aS, .int x1, .int x2] : List Value) ++ List.replicate (6 - (lg_sl ([.ref aS, .int x1, .int x2] : List Value)).length) Slot.unset).toArray = ls at hl ⊢
  have hl : lv_has ls 6 [(0, .ref aS), (1, .int x1), (2, .int x2)] := hl
  refine gn_Q (hret := fun Q => ∀ (pc : Nat) (ls : Array Slot) (H : Heap) (locs : List Loc) (r : Int32) , decode cX3_uppermostWhole pc = .ok (.ireturn, 1) → va_P (dC, dI) vwCl [(aS, .inr (2, [.ref aF, .ref aC, .long pat, .long goal])), (aF, .inr (0, [.ref aK, .int made, .int mac])), (aK, .inl (cI, 6, .inl ks))] H → va_D A [(aS, .inr (2, [.ref aF, .ref aC, .long pat, .long goal])), (aF, .inr (0, [.ref aK, .int made, .int mac])), (aK, .inl (cI, 6, .inl ks))] → va_S A s.heap H locs → post r → W p l e ({ frames := 2, cells := 0, slots := 0, locals := 58 } : Room) s m ([.ref aS, .int x1, .int x2] : List Value).toArray below meth c H locs 0 0 Q (F0 m pc ls [.int r])) (fun Q hret => ?_) ?_
  rotate_left
  · intro pc ls H locs r hdg hP hD hS hpost
    exact W.iret (v := r) hx hb hr (fun t ht hW => ⟨⟨r, (), rfl, hpost, by rw [ht]; exact hP, va_K.moved hW.alike hK, hD⟩, hS.F ht⟩) hS.2.2 hdg
  refine lv_aload_n hx hb dX3_uppermostWhole_0 rfl (lv_at hl 0 rfl) ?_
  refine va_get (D := (dC, dI)) (ci := 2) (v := .ref aF) (C := RX3) (T := TX3) (N := 4) hx hb hts iwX3_uppermostWhole_X3 hown hK hP 0 rfl rfl 0 (by decide) (hts _ kwX3_uppermostWhole_12) (fun _ h9 => h9) rfl dX3_uppermostWhole_1 ?_
  have hPc := hP.sub (ws' := [(aF, .inr (0, [.ref aK, .int made, .int mac]))]) [1] rfl
  have hDc := hD.sub (ws' := [(aF, .inr (0, [.ref aK, .int made, .int mac]))]) [1] (by decide) rfl
  have hFc := va_free (wc := [(aF, .inr (0, [.ref aK, .int made, .int mac]))]) hD hS hA [1] rfl
  refine va_calli (va_runV (As := []) (rest := []) ⟨hx, hb, hml, hown, hts⟩ (c_X0_layers l dC dI cI cC cS aF aK _ made mac hq) (cwV 0 hts gX3_uppermostWhole_X0_layers rfl rfl rfl (by decide +kernel) ⟨Nat.le_of_ble_eq_true rfl, Nat.le_of_ble_eq_true rfl⟩) (gn_preV hPc hK hN hDc (ci := 0) (q0 := 0) rfl rfl) rfl rfl hl.1 rfl (lv_room (Nat.le_of_ble_eq_true rfl)) dX3_uppermostWhole_4 ⟨Nat.zero_le _, Nat.zero_le _⟩) hS (fun q _ h => hFc q h) hFc (fun r_1 u t H1 locs ht hvm hq hB hz1 hk1 hS => ?_)
  obtain ⟨hP1, hK1, hD1⟩ := hB
  rw [ht] at hP1
  try dsimp only at hq
  obtain ⟨hP, hD⟩ := va_join (wr := [(aS, .inr (2, [.ref aF, .ref aC, .long pat, .long goal])), (aK, .inl (cI, 6, .inl ks))]) (w1 := [(aF, .inr (0, [.ref aK, .int made, .int mac]))]) hP hD [1] [0, 2] rfl rfl (by decide) (by decide) hk1 hFc hP1 hD1
  have hP := hP.sub (ws' := [(aS, .inr (2, [.ref aF, .ref aC, .long pat, .long goal])), (aF, .inr (0, [.ref aK, .int made, .int mac])), (aK, .inl (cI, 6, .inl ks))]) [0, 2, 1] rfl
  have hD := hD.sub (ws' := [(aS, .inr (2, [.ref aF, .ref aC, .long pat, .long goal])), (aF, .inr (0, [.ref aK, .int made, .int mac])), (aK, .inl (cI, 6, .inl ks))]) [0, 2, 1] (by decide) rfl
  generalize H1 = H at hP hS ⊢
  refine lv_istore_n (lv' := [(3, .int r_1), (0, .ref aS), (1, .int x1), (2, .int x2)]) hx hb dX3_uppermostWhole_7 rfl hl (by decide) rfl (fun ls hl => ?_)
  refine lv_iconst (v := 0) hx hb dX3_uppermostWhole_8 (by decide) ?_
  refine lv_istore (lv' := [(4, .int (0 : Int32)), (3, .int r_1), (0, .ref aS), (1, .int x1), (2, .int x2)]) hx hb dX3_uppermostWhole_9 hl (by decide) rfl (fun ls hl => ?_)
  have hq := hq (fun (v4_2 : Int32) => ∀ (H : Heap) (locs : List Loc) (ls : Array Slot), va_P (dC, dI) vwCl [(aS, .inr (2, [.ref aF, .ref aC, .long pat, .long goal])), (aF, .inr (0, [.ref aK, .int made, .int mac])), (aK, .inl (cI, 6, .inl ks))] H → va_D A [(aS, .inr (2, [.ref aF, .ref aC, .long pat, .long goal])), (aF, .inr (0, [.ref aK, .int made, .int mac])), (aK, .inl (cI, 6, .inl ks))] → va_S A s.heap H locs → lv_has ls 6 [(0, .ref aS), (1, .int x1), (2, .int x2), (3, .int r_1), (4, .int v4_2)] → W p l e ({ frames := 2, cells := 0, slots := 0, locals := 58 } : Room) s m ([.ref aS, .int x1, .int x2] : List Value).toArray below meth c H locs 0 0 Q (F0 m 11 ls [])) (by
    intro v4_2 hq H locs ls hP hD hS hl
    refine lv_iload hx hb dX3_uppermostWhole_11 (lv_at hl 4 rfl) ?_
    refine lv_iload_n hx hb dX3_uppermostWhole_13 rfl (lv_at hl 3 rfl) ?_
    refine lv_icmp_ge (tgt := 54) hx hb dX3_uppermostWhole_14 (by decide) (fun hc => ?_) (fun hc => ?_)
    · have hq := hq.1 hc
      refine lv_bipush (v := -6) hx hb dX3_uppermostWhole_54 (by decide) ?_
      exact hret _ _ _ _ _ dX3_uppermostWhole_56 hP hD hS hq
    · have hq := hq.2 hc
      refine lv_aload_n hx hb dX3_uppermostWhole_17 rfl (lv_at hl 0 rfl) ?_
      refine va_get (D := (dC, dI)) (ci := 2) (v := .ref aF) (C := RX3) (T := TX3) (N := 4) hx hb hts iwX3_uppermostWhole_X3 hown hK hP 0 rfl rfl 0 (by decide) (hts _ kwX3_uppermostWhole_12) (fun _ h9 => h9) rfl dX3_uppermostWhole_18 ?_
      refine lv_iload_n hx hb dX3_uppermostWhole_21 rfl (lv_at hl 1 rfl) ?_
      refine lv_iload_n hx hb dX3_uppermostWhole_22 rfl (lv_at hl 2 rfl) ?_
      refine lv_iload hx hb dX3_uppermostWhole_23 (lv_at hl 4 rfl) ?_
      have hPc := hP.sub (ws' := [(aF, .inr (0, [.ref aK, .int made, .int mac])), (aK, .inl (cI, 6, .inl ks))]) [1, 2] rfl
      have hDc := hD.sub (ws' := [(aF, .inr (0, [.ref aK, .int made, .int mac])), (aK, .inl (cI, 6, .inl ks))]) [1, 2] (by decide) rfl
      have hFc := va_free (wc := [(aF, .inr (0, [.ref aK, .int made, .int mac])), (aK, .inl (cI, 6, .inl ks))]) hD hS hA [1, 2] rfl
      refine va_calli (va_runV (As := [.int x1, .int x2, .int v4_2]) (rest := []) ⟨hx, hb, hml, hown, hts⟩ (c_X0_upperSide l dC dI cI cC cS aF aK _ made mac ks x1 x2 v4_2 hq) (cwV 3 hts gX3_uppermostWhole_X0_upperSide rfl rfl rfl (by decide +kernel) ⟨Nat.le_of_ble_eq_true rfl, Nat.le_of_ble_eq_true rfl⟩) (gn_preV hPc hK hN hDc (ci := 0) (q0 := 0) rfl rfl) rfl rfl hl.1 rfl (lv_room (Nat.le_of_ble_eq_true rfl)) dX3_uppermostWhole_25 ⟨Nat.zero_le _, Nat.zero_le _⟩) hS (fun q _ h => hFc q h) hFc (fun r_3 u t H1 locs ht hvm hq hB hz1 hk1 hS => ?_)
      obtain ⟨hP1, hK1, hD1⟩ := hB
      rw [ht] at hP1
      try dsimp only at hq
      obtain ⟨hP, hD⟩ := va_join (wr := [(aS, .inr (2, [.ref aF, .ref aC, .long pat, .long goal]))]) (w1 := [(aF, .inr (0, [.ref aK, .int made, .int mac])), (aK, .inl (cI, 6, .inl ks))]) hP hD [1, 2] [0] rfl rfl (by decide) (by decide) hk1 hFc hP1 hD1
      have hP := hP.sub (ws' := [(aS, .inr (2, [.ref aF, .ref aC, .long pat, .long goal])), (aF, .inr (0, [.ref aK, .int made, .int mac])), (aK, .inl (cI, 6, .inl ks))]) [0, 1, 2] rfl
      have hD := hD.sub (ws' := [(aS, .inr (2, [.ref aF, .ref aC, .long pat, .long goal])), (aF, .inr (0, [.ref aK, .int made, .int mac])), (aK, .inl (cI, 6, .inl ks))]) [0, 1, 2] (by decide) rfl
      generalize H1 = H at hP hS ⊢
      refine lv_istore (lv' := [(5, .int r_3), (0, .ref aS), (1, .int x1), (2, .int x2), (3, .int r_1), (4, .int v4_2)]) hx hb dX3_uppermostWhole_28 hl (by decide) rfl (fun ls hl => ?_)
      refine lv_aload_n hx hb dX3_uppermostWhole_30 rfl (lv_at hl 1 rfl) ?_
      refine va_get (D := (dC, dI)) (ci := 2) (v := .long pat) (C := RX3) (T := TX3) (N := 4) hx hb hts iwX3_uppermostWhole_X3 hown hK hP 0 rfl rfl 2 (by decide) (hts _ kwX3_uppermostWhole_22) (fun _ h9 => h9) rfl dX3_uppermostWhole_31 ?_
      refine lv_iload hx hb dX3_uppermostWhole_34 (lv_at hl 0 rfl) ?_
      have hPc := hP.sub (ws' := []) [] rfl
      have hDc := hD.sub (ws' := []) [] (by decide) rfl
      have hFc := va_free (wc := []) hD hS hA [] rfl
      refine va_calli (va_runSN (As := [.int r_3]) (rest := [.long pat]) ⟨hx, hb, hml, hown, hts⟩ (c_X5_cellOf l dC dI cI cC cS _ r_3 hq) ⟨va_cnB (host := RX5) 1 hts gX3_uppermostWhole_X5_cellOf_n89 rfl rfl rfl (gn_nw_X3_89 hN) (hts _ kwX3_uppermostWhole_ini_X5) (by decide +kernel) ⟨Nat.le_of_ble_eq_true rfl, Nat.le_of_ble_eq_true rfl⟩, (hts _ kwX3_uppermostWhole_st_X5_cellOf), trivial⟩ (gn_preS hPc hK hN hDc) rfl rfl hl.1 rfl (lv_room (Nat.le_of_ble_eq_true rfl)) dX3_uppermostWhole_36 ⟨Nat.zero_le _, Nat.zero_le _⟩) hS (fun q _ h => hFc q h) hFc (fun r_4 u t H1 locs ht hvm hq hB hz1 hk1 hS => ?_)
      obtain ⟨hP1, hK1, hD1⟩ := hB
      rw [ht] at hP1
      try dsimp only at hq
      obtain ⟨hP, hD⟩ := va_join (wr := [(aS, .inr (2, [.ref aF, .ref aC, .long pat, .long goal])), (aF, .inr (0, [.ref aK, .int made, .int mac])), (aK, .inl (cI, 6, .inl ks))]) (w1 := []) hP hD [] [0, 1, 2] rfl rfl (by decide) (by decide) hk1 hFc hP1 hD1
      have hP := hP.sub (ws' := [(aS, .inr (2, [.ref aF, .ref aC, .long pat, .long goal])), (aF, .inr (0, [.ref aK, .int made, .int mac])), (aK, .inl (cI, 6, .inl ks))]) [0, 1, 2] rfl
      have hD := hD.sub (ws' := [(aS, .inr (2, [.ref aF, .ref aC, .long pat, .long goal])), (aF, .inr (0, [.ref aK, .int made, .int mac])), (aK, .inl (cI, 6, .inl ks))]) [0, 1, 2] (by decide) rfl
      generalize H1 = H at hP hS ⊢
      have hPc := hP.sub (ws' := []) [] rfl
      have hDc := hD.sub (ws' := []) [] (by decide) rfl
      have hFc := va_free (wc := []) hD hS hA [] rfl
      refine va_calli (va_runSN (As := [.long pat, .int r_4]) (rest := []) ⟨hx, hb, hml, hown, hts⟩ (c_X5_hasCell l dC dI cI cC cS _ pat r_4 hq) ⟨va_cnB (host := RX5) 2 hts gX3_uppermostWhole_X5_hasCell_n97 rfl rfl rfl (gn_nw_X3_97 hN) (hts _ kwX3_uppermostWhole_ini_X5) (by decide +kernel) ⟨Nat.le_of_ble_eq_true rfl, Nat.le_of_ble_eq_true rfl⟩, (hts _ kwX3_uppermostWhole_st_X5_hasCell), trivial⟩ (gn_preS hPc hK hN hDc) rfl rfl hl.1 rfl (lv_room (Nat.le_of_ble_eq_true rfl)) dX3_uppermostWhole_39 ⟨Nat.zero_le _, Nat.zero_le _⟩) hS (fun q _ h => hFc q h) hFc (fun r_5 u t H1 locs ht hvm hq hB hz1 hk1 hS => ?_)
      obtain ⟨hP1, hK1, hD1⟩ := hB
      rw [ht] at hP1
      try dsimp only at hq
      obtain ⟨hP, hD⟩ := va_join (wr := [(aS, .inr (2, [.ref aF, .ref aC, .long pat, .long goal])), (aF, .inr (0, [.ref aK, .int made, .int mac])), (aK, .inl (cI, 6, .inl ks))]) (w1 := []) hP hD [] [0, 1, 2] rfl rfl (by decide) (by decide) hk1 hFc hP1 hD1
      have hP := hP.sub (ws' := [(aS, .inr (2, [.ref aF, .ref aC, .long pat, .long goal])), (aF, .inr (0, [.ref aK, .int made, .int mac])), (aK, .inl (cI, 6, .inl ks))]) [0, 1, 2] rfl
      have hD := hD.sub (ws' := [(aS, .inr (2, [.ref aF, .ref aC, .long pat, .long goal])), (aF, .inr (0, [.ref aK, .int made, .int mac])), (aK, .inl (cI, 6, .inl ks))]) [0, 1, 2] (by decide) rfl
      generalize H1 = H at hP hS ⊢
      refine lv_if_ne (tgt := 48) hx hb dX3_uppermostWhole_42 (by decide) (fun hc => ?_) (fun hc => ?_)
      · have hq := hq.1 hc
        refine lv_iinc (v := (v4_2 + (1 : Int32))) (lv' := [(4, .int (v4_2 + (1 : Int32))), (5, .int r_3), (0, .ref aS), (1, .int x1), (2, .int x2), (3, .int r_1)]) hx hb dX3_uppermostWhole_48 hl (k := 5) rfl rfl (by decide) rfl (fun ls hl => ?_)
        refine lv_goto (tgt := 11) hx hb dX3_uppermostWhole_51 (by decide) ?_
        exact hq _ _ _ hP hD hS (lv_sub hl [2, 3, 4, 5, 0] rfl)
      · have hq := hq.2 hc
        refine lv_iload hx hb dX3_uppermostWhole_45 (lv_at hl 0 rfl) ?_
        exact hret _ _ _ _ _ dX3_uppermostWhole_47 hP hD hS hq)
  exact hq _ _ _ hP hD hS (lv_sub hl [2, 3, 4, 1, 0] rfl)
set_option maxRecDepth 20000 in
theorem kwX3_dropInk_12 : Cond.fieldLink RX3 12 "PunchedFolds$Sheet" "folding" "LPunchedFolds$Folding;" ∈ wsX3_dropInk := by decide +kernel
set_option maxRecDepth 20000 in
theorem iwX3_dropInk_X3 : ∀ w ∈ wsX30, w ∈ wsX3_dropInk := by decide +kernel
set_option maxRecDepth 20000 in
theorem kwX3_dropInk_st_X5_cellOf : Cond.static yX5_cellOf ∈ wsX3_dropInk := by decide +kernel
set_option maxRecDepth 20000 in
theorem kwX3_dropInk_ini_X5 : Cond.initialized RX5 ∈ wsX3_dropInk := by decide +kernel
set_option maxHeartbeats 4000000 in
set_option maxRecDepth 100000 in
theorem c_X3_dropInk (l : Launch) (dC : Nat → ClassId) (dI : Nat → Nat → Nat) (cI cC cS : ClassId) (aS : Nat) (aC : Nat) (aF : Nat) (aK : Nat) (sz : Nat) (pat : Int64) (goal : Int64) (col : Nat → Int32) (made : Int32) (mac : Int32) (ks : Nat → Int32) (x1 : Int32) (x2 : Int32) (x3 : Int32) {post : Int32 → (Nat → Int32) → Prop} (hq : wp_X3_dropInk pat col made mac ks x1 x2 x3 post) : Met l yX3_dropInk wsX3_dropInk ({ frames := 3, cells := 0, slots := 0, locals := 83 } : Room) (gn_Pre (dC, dI) cI cC cS [.ref aS, .int x1, .int x2, .int x3] sz [(aS, .inr (2, [.ref aF, .ref aC, .long pat, .long goal])), (aC, .inl (cI, 128, .inl col)), (aF, .inr (0, [.ref aK, .int made, .int mac])), (aK, .inl (cI, 6, .inl ks))]) (va_Qi (fun (r : Int32) (u : (Nat → Int32)) => post r u) (fun (u : (Nat → Int32)) t => va_P (dC, dI) vwCl [(aS, .inr (2, [.ref aF, .ref aC, .long pat, .long goal])), (aC, .inl (cI, 128, .inl u)), (aF, .inr (0, [.ref aK, .int made, .int mac])), (aK, .inl (cI, 6, .inl ks))] t.heap ∧ va_K (dC, dI) vwCl (gn_tys cI cC cS) t ∧ va_D (va_A [(aS, .inr (2, [.ref aF, .ref aC, .long pat, .long goal])), (aC, .inl (cI, 128, .inl col)), (aF, .inr (0, [.ref aK, .int made, .int mac])), (aK, .inl (cI, 6, .inl ks))] sz) [(aS, .inr (2, [.ref aF, .ref aC, .long pat, .long goal])), (aC, .inl (cI, 128, .inl u)), (aF, .inr (0, [.ref aK, .int made, .int mac])), (aK, .inl (cI, 6, .inl ks))]) (va_A [(aS, .inr (2, [.ref aF, .ref aC, .long pat, .long goal])), (aC, .inl (cI, 128, .inl col)), (aF, .inr (0, [.ref aK, .int made, .int mac])), (aK, .inl (cI, 6, .inl ks))] sz)) 0 0 (va_A [(aS, .inr (2, [.ref aF, .ref aC, .long pat, .long goal])), (aC, .inl (cI, 128, .inl col)), (aF, .inr (0, [.ref aK, .int made, .int mac])), (aK, .inl (cI, 6, .inl ks))] sz) := by
  unfold wp_X3_dropInk at hq
  refine Met.ofW (cc := cX3_dropInk) (maxL := 5) (ret := (some .int)) (by decide) rfl ?_
  intro p e s m args below meth c s₁ B hml hv
  obtain ⟨rfl, hsz, hP, hK, hN, hD0⟩ := hv
  have hx := B.exec
  have hb := B.bytes
  have hr := B.returns
  have hts := atoms_spec (ws := wsX3_dropInk) B.pre
  have hown : s.vm.findClass RX3 = some m.cls := findClass_of_methodNamed B.named
  have hlocks := B.notSynchronized
  subst hsz
  have hD := hD0.self (sz := s.heap.size)
  generalize hAe : va_A [(aS, .inr (2, [.ref aF, .ref aC, .long pat, .long goal])), (aC, .inl (cI, 128, .inl col)), (aF, .inr (0, [.ref aK, .int made, .int mac])), (aK, .inl (cI, 6, .inl ks))] s.heap.size = A at hD ⊢
  have hA : ∀ q : Nat, s.heap.size ≤ q → A q := fun q h => by rw [← hAe]; exact Or.inr h
  have hS : va_S A s.heap s.heap [] := va_S.rf
  have hl := lv_entry ([.ref aS, .int x1, .int x2, .int x3] : List Value) (n := 5) (Nat.le_of_ble_eq_true rfl)
  rw [lg_entry_eq]
  generalize (lg_sl ([.ref aS, .int x1, .int x2, .int x3] : List Value) ++ List.replicate (5 - (lg_sl ([.ref aS, .int x1, .int x2, .int x3] : List Value)).length) Slot.unset).toArray = ls at hl ⊢
  have hl : lv_has ls 5 [(0, .ref aS), (1, .int x1), (2, .int x2), (3, .int x3)] := hl
  refine gn_Q (hret := fun Q => ∀ (pc : Nat) (ls : Array Slot) (H : Heap) (locs : List Loc) (r : Int32) (m_col : Nat → Int32), decode cX3_dropInk pc = .ok (.ireturn, 1) → va_P (dC, dI) vwCl [(aS, .inr (2, [.ref aF, .ref aC, .long pat, .long goal])), (aC, .inl (cI, 128, .inl m_col)), (aF, .inr (0, [.ref aK, .int made, .int mac])), (aK, .inl (cI, 6, .inl ks))] H → va_D A [(aS, .inr (2, [.ref aF, .ref aC, .long pat, .long goal])), (aC, .inl (cI, 128, .inl m_col)), (aF, .inr (0, [.ref aK, .int made, .int mac])), (aK, .inl (cI, 6, .inl ks))] → va_S A s.heap H locs → post r m_col → W p l e ({ frames := 3, cells := 0, slots := 0, locals := 83 } : Room) s m ([.ref aS, .int x1, .int x2, .int x3] : List Value).toArray below meth c H locs 0 0 Q (F0 m pc ls [.int r])) (fun Q hret => ?_) ?_
  rotate_left
  · intro pc ls H locs r m_col hdg hP hD hS hpost
    exact W.iret (v := r) hx hb hr (fun t ht hW => ⟨⟨r, m_col, rfl, hpost, by rw [ht]; exact hP, va_K.moved hW.alike hK, hD⟩, hS.F ht⟩) hS.2.2 hdg
  refine lv_aload_n hx hb dX3_dropInk_0 rfl (lv_at hl 0 rfl) ?_
  refine va_get (D := (dC, dI)) (ci := 2) (v := .ref aF) (C := RX3) (T := TX3) (N := 4) hx hb hts iwX3_dropInk_X3 hown hK hP 0 rfl rfl 0 (by decide) (hts _ kwX3_dropInk_12) (fun _ h9 => h9) rfl dX3_dropInk_1 ?_
  refine lv_iload_n hx hb dX3_dropInk_4 rfl (lv_at hl 1 rfl) ?_
  refine lv_iload_n hx hb dX3_dropInk_5 rfl (lv_at hl 2 rfl) ?_
  have hPc := hP.sub (ws' := [(aF, .inr (0, [.ref aK, .int made, .int mac]))]) [2] rfl
  have hDc := hD.sub (ws' := [(aF, .inr (0, [.ref aK, .int made, .int mac]))]) [2] (by decide) rfl
  have hFc := va_free (wc := [(aF, .inr (0, [.ref aK, .int made, .int mac]))]) hD hS hA [2] rfl
  refine va_calli (va_runV (As := [.int x1, .int x2]) (rest := []) ⟨hx, hb, hml, hown, hts⟩ (c_X0_hasField l dC dI cI cC cS aF aK _ made mac x1 x2 hq) (cwV 2 hts gX3_dropInk_X0_hasField rfl rfl rfl (by decide +kernel) ⟨Nat.le_of_ble_eq_true rfl, Nat.le_of_ble_eq_true rfl⟩) (gn_preV hPc hK hN hDc (ci := 0) (q0 := 0) rfl rfl) rfl rfl hl.1 rfl (lv_room (Nat.le_of_ble_eq_true rfl)) dX3_dropInk_6 ⟨Nat.zero_le _, Nat.zero_le _⟩) hS (fun q _ h => hFc q h) hFc (fun r_1 u t H1 locs ht hvm hq hB hz1 hk1 hS => ?_)
  obtain ⟨hP1, hK1, hD1⟩ := hB
  rw [ht] at hP1
  try dsimp only at hq
  obtain ⟨hP, hD⟩ := va_join (wr := [(aS, .inr (2, [.ref aF, .ref aC, .long pat, .long goal])), (aC, .inl (cI, 128, .inl col)), (aK, .inl (cI, 6, .inl ks))]) (w1 := [(aF, .inr (0, [.ref aK, .int made, .int mac]))]) hP hD [2] [0, 1, 3] rfl rfl (by decide) (by decide) hk1 hFc hP1 hD1
  have hP := hP.sub (ws' := [(aS, .inr (2, [.ref aF, .ref aC, .long pat, .long goal])), (aC, .inl (cI, 128, .inl col)), (aF, .inr (0, [.ref aK, .int made, .int mac])), (aK, .inl (cI, 6, .inl ks))]) [0, 1, 3, 2] rfl
  have hD := hD.sub (ws' := [(aS, .inr (2, [.ref aF, .ref aC, .long pat, .long goal])), (aC, .inl (cI, 128, .inl col)), (aF, .inr (0, [.ref aK, .int made, .int mac])), (aK, .inl (cI, 6, .inl ks))]) [0, 1, 3, 2] (by decide) rfl
  generalize H1 = H at hP hS ⊢
  refine lv_if_ne (tgt := 14) hx hb dX3_dropInk_9 (by decide) (fun hc => ?_) (fun hc => ?_)
  · have hq := hq.1 hc
    refine lv_iload_n hx hb dX3_dropInk_14 rfl (lv_at hl 3 rfl) ?_
    refine lv_iconst (v := 1) hx hb dX3_dropInk_15 (by decide) ?_
    have hq := hq (∀ (H : Heap) (locs : List Loc) (ls : Array Slot), va_P (dC, dI) vwCl [(aS, .inr (2, [.ref aF, .ref aC, .long pat, .long goal])), (aC, .inl (cI, 128, .inl col)), (aF, .inr (0, [.ref aK, .int made, .int mac])), (aK, .inl (cI, 6, .inl ks))] H → va_D A [(aS, .inr (2, [.ref aF, .ref aC, .long pat, .long goal])), (aC, .inl (cI, 128, .inl col)), (aF, .inr (0, [.ref aK, .int made, .int mac])), (aK, .inl (cI, 6, .inl ks))] → va_S A s.heap H locs → lv_has ls 5 [] → W p l e ({ frames := 3, cells := 0, slots := 0, locals := 83 } : Room) s m ([.ref aS, .int x1, .int x2, .int x3] : List Value).toArray below meth c H locs 0 0 Q (F0 m 24 ls [])) (by
      intro  hq H locs ls hP hD hS hl
      refine lv_bipush (v := -2) hx hb dX3_dropInk_24 (by decide) ?_
      exact hret _ _ _ _ _ _ dX3_dropInk_26 hP hD hS hq)
    refine lv_icmp_lt (tgt := 24) hx hb dX3_dropInk_16 (by decide) (fun hc => ?_) (fun hc => ?_)
    · have hq := hq.1 hc
      exact hq _ _ _ hP hD hS (lv_sub hl [] rfl)
    · have hq := hq.2 hc
      refine lv_iload_n hx hb dX3_dropInk_19 rfl (lv_at hl 3 rfl) ?_
      refine lv_iconst (v := 5) hx hb dX3_dropInk_20 (by decide) ?_
      refine lv_icmp_le (tgt := 27) hx hb dX3_dropInk_21 (by decide) (fun hc => ?_) (fun hc => ?_)
      · have hq := hq.1 hc
        refine lv_aload_n hx hb dX3_dropInk_27 rfl (lv_at hl 0 rfl) ?_
        refine lv_iload_n hx hb dX3_dropInk_28 rfl (lv_at hl 1 rfl) ?_
        refine lv_iload_n hx hb dX3_dropInk_29 rfl (lv_at hl 2 rfl) ?_
        have hPc := hP.sub (ws' := [(aS, .inr (2, [.ref aF, .ref aC, .long pat, .long goal])), (aF, .inr (0, [.ref aK, .int made, .int mac])), (aK, .inl (cI, 6, .inl ks))]) [0, 2, 3] rfl
        have hDc := hD.sub (ws' := [(aS, .inr (2, [.ref aF, .ref aC, .long pat, .long goal])), (aF, .inr (0, [.ref aK, .int made, .int mac])), (aK, .inl (cI, 6, .inl ks))]) [0, 2, 3] (by decide) rfl
        have hFc := va_free (wc := [(aS, .inr (2, [.ref aF, .ref aC, .long pat, .long goal])), (aF, .inr (0, [.ref aK, .int made, .int mac])), (aK, .inl (cI, 6, .inl ks))]) hD hS hA [0, 2, 3] rfl
        refine va_calli (va_runV (As := [.int x1, .int x2]) (rest := []) ⟨hx, hb, hml, hown, hts⟩ (c_X3_uppermostWhole l dC dI cI cC cS aS aC aF aK _ pat goal made mac ks x1 x2 hq) (cwV 2 hts gX3_dropInk_X3_uppermostWhole rfl rfl rfl (by decide +kernel) ⟨Nat.le_of_ble_eq_true rfl, Nat.le_of_ble_eq_true rfl⟩) (gn_preV hPc hK hN hDc (ci := 2) (q0 := 0) rfl rfl) rfl rfl hl.1 rfl (lv_room (Nat.le_of_ble_eq_true rfl)) dX3_dropInk_30 ⟨Nat.zero_le _, Nat.zero_le _⟩) hS (fun q _ h => hFc q h) hFc (fun r_2 u t H1 locs ht hvm hq hB hz1 hk1 hS => ?_)
        obtain ⟨hP1, hK1, hD1⟩ := hB
        rw [ht] at hP1
        try dsimp only at hq
        obtain ⟨hP, hD⟩ := va_join (wr := [(aC, .inl (cI, 128, .inl col))]) (w1 := [(aS, .inr (2, [.ref aF, .ref aC, .long pat, .long goal])), (aF, .inr (0, [.ref aK, .int made, .int mac])), (aK, .inl (cI, 6, .inl ks))]) hP hD [0, 2, 3] [1] rfl rfl (by decide) (by decide) hk1 hFc hP1 hD1
        have hP := hP.sub (ws' := [(aS, .inr (2, [.ref aF, .ref aC, .long pat, .long goal])), (aC, .inl (cI, 128, .inl col)), (aF, .inr (0, [.ref aK, .int made, .int mac])), (aK, .inl (cI, 6, .inl ks))]) [1, 0, 2, 3] rfl
        have hD := hD.sub (ws' := [(aS, .inr (2, [.ref aF, .ref aC, .long pat, .long goal])), (aC, .inl (cI, 128, .inl col)), (aF, .inr (0, [.ref aK, .int made, .int mac])), (aK, .inl (cI, 6, .inl ks))]) [1, 0, 2, 3] (by decide) rfl
        generalize H1 = H at hP hS ⊢
        refine lv_istore (lv' := [(4, .int r_2), (0, .ref aS), (1, .int x1), (2, .int x2), (3, .int x3)]) hx hb dX3_dropInk_33 hl (by decide) rfl (fun ls hl => ?_)
        refine lv_iload hx hb dX3_dropInk_35 (lv_at hl 0 rfl) ?_
        refine lv_bipush (v := -6) hx hb dX3_dropInk_37 (by decide) ?_
        refine lv_icmp_ne (tgt := 45) hx hb dX3_dropInk_39 (by decide) (fun hc => ?_) (fun hc => ?_)
        · have hq := hq.1 hc
          refine lv_aload_n hx hb dX3_dropInk_45 rfl (lv_at hl 1 rfl) ?_
          refine lv_iload hx hb dX3_dropInk_46 (lv_at hl 0 rfl) ?_
          refine lv_iload_n hx hb dX3_dropInk_48 rfl (lv_at hl 4 rfl) ?_
          have hPc := hP.sub (ws' := [(aS, .inr (2, [.ref aF, .ref aC, .long pat, .long goal])), (aC, .inl (cI, 128, .inl col))]) [0, 1] rfl
          have hDc := hD.sub (ws' := [(aS, .inr (2, [.ref aF, .ref aC, .long pat, .long goal])), (aC, .inl (cI, 128, .inl col))]) [0, 1] (by decide) rfl
          have hFc := va_free (wc := [(aS, .inr (2, [.ref aF, .ref aC, .long pat, .long goal])), (aC, .inl (cI, 128, .inl col))]) hD hS hA [0, 1] rfl
          refine va_callv (va_runV (As := [.int r_2, .int x3]) (rest := []) ⟨hx, hb, hml, hown, hts⟩ (c_X3_setColour l dC dI cI cC cS aS aC aF _ pat goal col r_2 x3 hq) (cwV 2 hts gX3_dropInk_X3_setColour rfl rfl rfl (by decide +kernel) ⟨Nat.le_of_ble_eq_true rfl, Nat.le_of_ble_eq_true rfl⟩) (gn_preV hPc hK hN hDc (ci := 2) (q0 := 0) rfl rfl) rfl rfl hl.1 rfl (lv_room (Nat.le_of_ble_eq_true rfl)) dX3_dropInk_49 ⟨Nat.zero_le _, Nat.zero_le _⟩) hS (fun q _ h => hFc q h) hFc (fun u t H1 locs ht hvm hq hB hz1 hk1 hS => ?_)
          obtain ⟨col__3, rfl⟩ : ∃ z, z = u := ⟨_, rfl⟩
          obtain ⟨hP1, hK1, hD1⟩ := hB
          rw [ht] at hP1
          try dsimp only at hq
          obtain ⟨hP, hD⟩ := va_join (wr := [(aF, .inr (0, [.ref aK, .int made, .int mac])), (aK, .inl (cI, 6, .inl ks))]) (w1 := [(aS, .inr (2, [.ref aF, .ref aC, .long pat, .long goal])), (aC, .inl (cI, 128, .inl col__3))]) hP hD [0, 1] [2, 3] rfl rfl (by decide) (by decide) hk1 hFc hP1 hD1
          have hP := hP.sub (ws' := [(aS, .inr (2, [.ref aF, .ref aC, .long pat, .long goal])), (aC, .inl (cI, 128, .inl col__3)), (aF, .inr (0, [.ref aK, .int made, .int mac])), (aK, .inl (cI, 6, .inl ks))]) [2, 3, 0, 1] rfl
          have hD := hD.sub (ws' := [(aS, .inr (2, [.ref aF, .ref aC, .long pat, .long goal])), (aC, .inl (cI, 128, .inl col__3)), (aF, .inr (0, [.ref aK, .int made, .int mac])), (aK, .inl (cI, 6, .inl ks))]) [2, 3, 0, 1] (by decide) rfl
          generalize H1 = H at hP hS ⊢
          refine lv_iload hx hb dX3_dropInk_52 (lv_at hl 0 rfl) ?_
          have hPc := hP.sub (ws' := []) [] rfl
          have hDc := hD.sub (ws' := []) [] (by decide) rfl
          have hFc := va_free (wc := []) hD hS hA [] rfl
          refine va_calli (va_runSN (As := [.int r_2]) (rest := []) ⟨hx, hb, hml, hown, hts⟩ (c_X5_cellOf l dC dI cI cC cS _ r_2 hq) ⟨va_cnB (host := RX5) 1 hts gX3_dropInk_X5_cellOf_n89 rfl rfl rfl (gn_nw_X3_89 hN) (hts _ kwX3_dropInk_ini_X5) (by decide +kernel) ⟨Nat.le_of_ble_eq_true rfl, Nat.le_of_ble_eq_true rfl⟩, (hts _ kwX3_dropInk_st_X5_cellOf), trivial⟩ (gn_preS hPc hK hN hDc) rfl rfl hl.1 rfl (lv_room (Nat.le_of_ble_eq_true rfl)) dX3_dropInk_54 ⟨Nat.zero_le _, Nat.zero_le _⟩) hS (fun q _ h => hFc q h) hFc (fun r_4 u t H1 locs ht hvm hq hB hz1 hk1 hS => ?_)
          obtain ⟨hP1, hK1, hD1⟩ := hB
          rw [ht] at hP1
          try dsimp only at hq
          obtain ⟨hP, hD⟩ := va_join (wr := [(aS, .inr (2, [.ref aF, .ref aC, .long pat, .long goal])), (aC, .inl (cI, 128, .inl col__3)), (aF, .inr (0, [.ref aK, .int made, .int mac])), (aK, .inl (cI, 6, .inl ks))]) (w1 := []) hP hD [] [0, 1, 2, 3] rfl rfl (by decide) (by decide) hk1 hFc hP1 hD1
          have hP := hP.sub (ws' := [(aS, .inr (2, [.ref aF, .ref aC, .long pat, .long goal])), (aC, .inl (cI, 128, .inl col__3)), (aF, .inr (0, [.ref aK, .int made, .int mac])), (aK, .inl (cI, 6, .inl ks))]) [0, 1, 2, 3] rfl
          have hD := hD.sub (ws' := [(aS, .inr (2, [.ref aF, .ref aC, .long pat, .long goal])), (aC, .inl (cI, 128, .inl col__3)), (aF, .inr (0, [.ref aK, .int made, .int mac])), (aK, .inl (cI, 6, .inl ks))]) [0, 1, 2, 3] (by decide) rfl
          generalize H1 = H at hP hS ⊢
          exact hret _ _ _ _ _ _ dX3_dropInk_57 hP hD hS hq
        · have hq := hq.2 hc
          refine lv_bipush (v := -6) hx hb dX3_dropInk_42 (by decide) ?_
          exact hret _ _ _ _ _ _ dX3_dropInk_44 hP hD hS hq
      · have hq := hq.2 hc
        exact hq _ _ _ hP hD hS (lv_sub hl [] rfl)
  · have hq := hq.2 hc
    refine lv_iconst (v := -1) hx hb dX3_dropInk_12 (by decide) ?_
    exact hret _ _ _ _ _ _ dX3_dropInk_13 hP hD hS hq
set_option maxRecDepth 20000 in
theorem kwX3_mendTop_12 : Cond.fieldLink RX3 12 "PunchedFolds$Sheet" "folding" "LPunchedFolds$Folding;" ∈ wsX3_mendTop := by decide +kernel
set_option maxRecDepth 20000 in
theorem iwX3_mendTop_X3 : ∀ w ∈ wsX30, w ∈ wsX3_mendTop := by decide +kernel
set_option maxRecDepth 20000 in
theorem kwX3_mendTop_st_X5_cellOf : Cond.static yX5_cellOf ∈ wsX3_mendTop := by decide +kernel
set_option maxRecDepth 20000 in
theorem kwX3_mendTop_ini_X5 : Cond.initialized RX5 ∈ wsX3_mendTop := by decide +kernel
set_option maxRecDepth 20000 in
theorem kwX3_mendTop_22 : Cond.fieldLink RX3 22 "PunchedFolds$Sheet" "pattern" "J" ∈ wsX3_mendTop := by decide +kernel
set_option maxRecDepth 20000 in
theorem kwX3_mendTop_st_X5_hasCell : Cond.static yX5_hasCell ∈ wsX3_mendTop := by decide +kernel
set_option maxRecDepth 20000 in
theorem kwX3_mendTop_101 : Cond.constantLong RX3 101 (-1) ∈ wsX3_mendTop := by decide +kernel
set_option maxHeartbeats 4000000 in
set_option maxRecDepth 100000 in
theorem c_X3_mendTop (l : Launch) (dC : Nat → ClassId) (dI : Nat → Nat → Nat) (cI cC cS : ClassId) (aS : Nat) (aC : Nat) (aF : Nat) (aK : Nat) (sz : Nat) (pat : Int64) (goal : Int64) (col : Nat → Int32) (made : Int32) (mac : Int32) (ks : Nat → Int32) (x1 : Int32) (x2 : Int32) {post : Int32 → Int64 → (Nat → Int32) → Prop} (hq : wp_X3_mendTop pat col made mac ks x1 x2 post) : Met l yX3_mendTop wsX3_mendTop ({ frames := 2, cells := 0, slots := 0, locals := 58 } : Room) (gn_Pre (dC, dI) cI cC cS [.ref aS, .int x1, .int x2] sz [(aS, .inr (2, [.ref aF, .ref aC, .long pat, .long goal])), (aC, .inl (cI, 128, .inl col)), (aF, .inr (0, [.ref aK, .int made, .int mac])), (aK, .inl (cI, 6, .inl ks))]) (va_Qi (fun (r : Int32) (u : Int64 × (Nat → Int32)) => post r u.1 u.2) (fun (u : Int64 × (Nat → Int32)) t => va_P (dC, dI) vwCl [(aS, .inr (2, [.ref aF, .ref aC, .long u.1, .long goal])), (aC, .inl (cI, 128, .inl u.2)), (aF, .inr (0, [.ref aK, .int made, .int mac])), (aK, .inl (cI, 6, .inl ks))] t.heap ∧ va_K (dC, dI) vwCl (gn_tys cI cC cS) t ∧ va_D (va_A [(aS, .inr (2, [.ref aF, .ref aC, .long pat, .long goal])), (aC, .inl (cI, 128, .inl col)), (aF, .inr (0, [.ref aK, .int made, .int mac])), (aK, .inl (cI, 6, .inl ks))] sz) [(aS, .inr (2, [.ref aF, .ref aC, .long u.1, .long goal])), (aC, .inl (cI, 128, .inl u.2)), (aF, .inr (0, [.ref aK, .int made, .int mac])), (aK, .inl (cI, 6, .inl ks))]) (va_A [(aS, .inr (2, [.ref aF, .ref aC, .long pat, .long goal])), (aC, .inl (cI, 128, .inl col)), (aF, .inr (0, [.ref aK, .int made, .int mac])), (aK, .inl (cI, 6, .inl ks))] sz)) 0 0 (va_A [(aS, .inr (2, [.ref aF, .ref aC, .long pat, .long goal])), (aC, .inl (cI, 128, .inl col)), (aF, .inr (0, [.ref aK, .int made, .int mac])), (aK, .inl (cI, 6, .inl ks))] sz) := by
  unfold wp_X3_mendTop at hq
  refine Met.ofW (cc := cX3_mendTop) (maxL := 4) (ret := (some .int)) (by decide) rfl ?_
  intro p e s m args below meth c s₁ B hml hv
  obtain ⟨rfl, hsz, hP, hK, hN, hD0⟩ := hv
  have hx := B.exec
  have hb := B.bytes
  have hr := B.returns
  have hts := atoms_spec (ws := wsX3_mendTop) B.pre
  have hown : s.vm.findClass RX3 = some m.cls := findClass_of_methodNamed B.named
  have hlocks := B.notSynchronized
  subst hsz
  have hD := hD0.self (sz := s.heap.size)
  generalize hAe : va_A [(aS, .inr (2, [.ref aF, .ref aC, .long pat, .long goal])), (aC, .inl (cI, 128, .inl col)), (aF, .inr (0, [.ref aK, .int made, .int mac])), (aK, .inl (cI, 6, .inl ks))] s.heap.size = A at hD ⊢
  have hA : ∀ q : Nat, s.heap.size ≤ q → A q := fun q h => by rw [← hAe]; exact Or.inr h
  have hS : va_S A s.heap s.heap [] := va_S.rf
  have hl := lv_entry ([.ref aS, .int x1, .int x2] : List Value) (n := 4) (Nat.le_of_ble_eq_true rfl)
  rw [lg_entry_eq]
  generalize (lg_sl ([.ref aS, .int x1, .int x2] : List Value) ++ List.replicate (4 - (lg_sl ([.ref aS, .int x1, .int x2] : List Value)).length) Slot.unset).toArray = ls at hl ⊢
  have hl : lv_has ls 4 [(0, .ref aS), (1, .int x1), (2, .int x2)] := hl
  refine gn_Q (hret := fun Q => ∀ (pc : Nat) (ls : Array Slot) (H : Heap) (locs : List Loc) (r : Int32) (m_pat : Int64) (m_col : Nat → Int32), decode cX3_mendTop pc = .ok (.ireturn, 1) → va_P (dC, dI) vwCl [(aS, .inr (2, [.ref aF, .ref aC, .long m_pat, .long goal])), (aC, .inl (cI, 128, .inl m_col)), (aF, .inr (0, [.ref aK, .int made, .int mac])), (aK, .inl (cI, 6, .inl ks))] H → va_D A [(aS, .inr (2, [.ref aF, .ref aC, .long m_pat, .long goal])), (aC, .inl (cI, 128, .inl m_col)), (aF, .inr (0, [.ref aK, .int made, .int mac])), (aK, .inl (cI, 6, .inl ks))] → va_S A s.heap H locs → post r m_pat m_col → W p l e ({ frames := 2, cells := 0, slots := 0, locals := 58 } : Room) s m ([.ref aS, .int x1, .int x2] : List Value).toArray below meth c H locs 0 0 Q (F0 m pc ls [.int r])) (fun Q hret => ?_) ?_
  rotate_left
  · intro pc ls H locs r m_pat m_col hdg hP hD hS hpost
    exact W.iret (v := r) hx hb hr (fun t ht hW => ⟨⟨r, (m_pat, m_col), rfl, hpost, by rw [ht]; exact hP, va_K.moved hW.alike hK, hD⟩, hS.F ht⟩) hS.2.2 hdg
  refine lv_aload_n hx hb dX3_mendTop_0 rfl (lv_at hl 0 rfl) ?_
  refine va_get (D := (dC, dI)) (ci := 2) (v := .ref aF) (C := RX3) (T := TX3) (N := 4) hx hb hts iwX3_mendTop_X3 hown hK hP 0 rfl rfl 0 (by decide) (hts _ kwX3_mendTop_12) (fun _ h9 => h9) rfl dX3_mendTop_1 ?_
  refine lv_iload_n hx hb dX3_mendTop_4 rfl (lv_at hl 1 rfl) ?_
  refine lv_iload_n hx hb dX3_mendTop_5 rfl (lv_at hl 2 rfl) ?_
  have hPc := hP.sub (ws' := [(aF, .inr (0, [.ref aK, .int made, .int mac]))]) [2] rfl
  have hDc := hD.sub (ws' := [(aF, .inr (0, [.ref aK, .int made, .int mac]))]) [2] (by decide) rfl
  have hFc := va_free (wc := [(aF, .inr (0, [.ref aK, .int made, .int mac]))]) hD hS hA [2] rfl
  refine va_calli (va_runV (As := [.int x1, .int x2]) (rest := []) ⟨hx, hb, hml, hown, hts⟩ (c_X0_hasField l dC dI cI cC cS aF aK _ made mac x1 x2 hq) (cwV 2 hts gX3_mendTop_X0_hasField rfl rfl rfl (by decide +kernel) ⟨Nat.le_of_ble_eq_true rfl, Nat.le_of_ble_eq_true rfl⟩) (gn_preV hPc hK hN hDc (ci := 0) (q0 := 0) rfl rfl) rfl rfl hl.1 rfl (lv_room (Nat.le_of_ble_eq_true rfl)) dX3_mendTop_6 ⟨Nat.zero_le _, Nat.zero_le _⟩) hS (fun q _ h => hFc q h) hFc (fun r_1 u t H1 locs ht hvm hq hB hz1 hk1 hS => ?_)
  obtain ⟨hP1, hK1, hD1⟩ := hB
  rw [ht] at hP1
  try dsimp only at hq
  obtain ⟨hP, hD⟩ := va_join (wr := [(aS, .inr (2, [.ref aF, .ref aC, .long pat, .long goal])), (aC, .inl (cI, 128, .inl col)), (aK, .inl (cI, 6, .inl ks))]) (w1 := [(aF, .inr (0, [.ref aK, .int made, .int mac]))]) hP hD [2] [0, 1, 3] rfl rfl (by decide) (by decide) hk1 hFc hP1 hD1
  have hP := hP.sub (ws' := [(aS, .inr (2, [.ref aF, .ref aC, .long pat, .long goal])), (aC, .inl (cI, 128, .inl col)), (aF, .inr (0, [.ref aK, .int made, .int mac])), (aK, .inl (cI, 6, .inl ks))]) [0, 1, 3, 2] rfl
  have hD := hD.sub (ws' := [(aS, .inr (2, [.ref aF, .ref aC, .long pat, .long goal])), (aC, .inl (cI, 128, .inl col)), (aF, .inr (0, [.ref aK, .int made, .int mac])), (aK, .inl (cI, 6, .inl ks))]) [0, 1, 3, 2] (by decide) rfl
  generalize H1 = H at hP hS ⊢
  refine lv_if_ne (tgt := 14) hx hb dX3_mendTop_9 (by decide) (fun hc => ?_) (fun hc => ?_)
  · have hq := hq.1 hc
    refine lv_aload_n hx hb dX3_mendTop_14 rfl (lv_at hl 0 rfl) ?_
    refine va_get (D := (dC, dI)) (ci := 2) (v := .ref aF) (C := RX3) (T := TX3) (N := 4) hx hb hts iwX3_mendTop_X3 hown hK hP 0 rfl rfl 0 (by decide) (hts _ kwX3_mendTop_12) (fun _ h9 => h9) rfl dX3_mendTop_15 ?_
    refine lv_iload_n hx hb dX3_mendTop_18 rfl (lv_at hl 1 rfl) ?_
    refine lv_iload_n hx hb dX3_mendTop_19 rfl (lv_at hl 2 rfl) ?_
    refine lv_iconst (v := 0) hx hb dX3_mendTop_20 (by decide) ?_
    have hPc := hP.sub (ws' := [(aF, .inr (0, [.ref aK, .int made, .int mac])), (aK, .inl (cI, 6, .inl ks))]) [2, 3] rfl
    have hDc := hD.sub (ws' := [(aF, .inr (0, [.ref aK, .int made, .int mac])), (aK, .inl (cI, 6, .inl ks))]) [2, 3] (by decide) rfl
    have hFc := va_free (wc := [(aF, .inr (0, [.ref aK, .int made, .int mac])), (aK, .inl (cI, 6, .inl ks))]) hD hS hA [2, 3] rfl
    refine va_calli (va_runV (As := [.int x1, .int x2, .int (0 : Int32)]) (rest := []) ⟨hx, hb, hml, hown, hts⟩ (c_X0_upperSide l dC dI cI cC cS aF aK _ made mac ks x1 x2 (0 : Int32) hq) (cwV 3 hts gX3_mendTop_X0_upperSide rfl rfl rfl (by decide +kernel) ⟨Nat.le_of_ble_eq_true rfl, Nat.le_of_ble_eq_true rfl⟩) (gn_preV hPc hK hN hDc (ci := 0) (q0 := 0) rfl rfl) rfl rfl hl.1 rfl (lv_room (Nat.le_of_ble_eq_true rfl)) dX3_mendTop_21 ⟨Nat.zero_le _, Nat.zero_le _⟩) hS (fun q _ h => hFc q h) hFc (fun r_2 u t H1 locs ht hvm hq hB hz1 hk1 hS => ?_)
    obtain ⟨hP1, hK1, hD1⟩ := hB
    rw [ht] at hP1
    try dsimp only at hq
    obtain ⟨hP, hD⟩ := va_join (wr := [(aS, .inr (2, [.ref aF, .ref aC, .long pat, .long goal])), (aC, .inl (cI, 128, .inl col))]) (w1 := [(aF, .inr (0, [.ref aK, .int made, .int mac])), (aK, .inl (cI, 6, .inl ks))]) hP hD [2, 3] [0, 1] rfl rfl (by decide) (by decide) hk1 hFc hP1 hD1
    have hP := hP.sub (ws' := [(aS, .inr (2, [.ref aF, .ref aC, .long pat, .long goal])), (aC, .inl (cI, 128, .inl col)), (aF, .inr (0, [.ref aK, .int made, .int mac])), (aK, .inl (cI, 6, .inl ks))]) [0, 1, 2, 3] rfl
    have hD := hD.sub (ws' := [(aS, .inr (2, [.ref aF, .ref aC, .long pat, .long goal])), (aC, .inl (cI, 128, .inl col)), (aF, .inr (0, [.ref aK, .int made, .int mac])), (aK, .inl (cI, 6, .inl ks))]) [0, 1, 2, 3] (by decide) rfl
    generalize H1 = H at hP hS ⊢
    have hPc := hP.sub (ws' := []) [] rfl
    have hDc := hD.sub (ws' := []) [] (by decide) rfl
    have hFc := va_free (wc := []) hD hS hA [] rfl
    refine va_calli (va_runSN (As := [.int r_2]) (rest := []) ⟨hx, hb, hml, hown, hts⟩ (c_X5_cellOf l dC dI cI cC cS _ r_2 hq) ⟨va_cnB (host := RX5) 1 hts gX3_mendTop_X5_cellOf_n89 rfl rfl rfl (gn_nw_X3_89 hN) (hts _ kwX3_mendTop_ini_X5) (by decide +kernel) ⟨Nat.le_of_ble_eq_true rfl, Nat.le_of_ble_eq_true rfl⟩, (hts _ kwX3_mendTop_st_X5_cellOf), trivial⟩ (gn_preS hPc hK hN hDc) rfl rfl hl.1 rfl (lv_room (Nat.le_of_ble_eq_true rfl)) dX3_mendTop_24 ⟨Nat.zero_le _, Nat.zero_le _⟩) hS (fun q _ h => hFc q h) hFc (fun r_3 u t H1 locs ht hvm hq hB hz1 hk1 hS => ?_)
    obtain ⟨hP1, hK1, hD1⟩ := hB
    rw [ht] at hP1
    try dsimp only at hq
    obtain ⟨hP, hD⟩ := va_join (wr := [(aS, .inr (2, [.ref aF, .ref aC, .long pat, .long goal])), (aC, .inl (cI, 128, .inl col)), (aF, .inr (0, [.ref aK, .int made, .int mac])), (aK, .inl (cI, 6, .inl ks))]) (w1 := []) hP hD [] [0, 1, 2, 3] rfl rfl (by decide) (by decide) hk1 hFc hP1 hD1
    have hP := hP.sub (ws' := [(aS, .inr (2, [.ref aF, .ref aC, .long pat, .long goal])), (aC, .inl (cI, 128, .inl col)), (aF, .inr (0, [.ref aK, .int made, .int mac])), (aK, .inl (cI, 6, .inl ks))]) [0, 1, 2, 3] rfl
    have hD := hD.sub (ws' := [(aS, .inr (2, [.ref aF, .ref aC, .long pat, .long goal])), (aC, .inl (cI, 128, .inl col)), (aF, .inr (0, [.ref aK, .int made, .int mac])), (aK, .inl (cI, 6, .inl ks))]) [0, 1, 2, 3] (by decide) rfl
    generalize H1 = H at hP hS ⊢
    refine lv_istore_n (lv' := [(3, .int r_3), (0, .ref aS), (1, .int x1), (2, .int x2)]) hx hb dX3_mendTop_27 rfl hl (by decide) rfl (fun ls hl => ?_)
    refine lv_aload_n hx hb dX3_mendTop_28 rfl (lv_at hl 1 rfl) ?_
    refine va_get (D := (dC, dI)) (ci := 2) (v := .long pat) (C := RX3) (T := TX3) (N := 4) hx hb hts iwX3_mendTop_X3 hown hK hP 0 rfl rfl 2 (by decide) (hts _ kwX3_mendTop_22) (fun _ h9 => h9) rfl dX3_mendTop_29 ?_
    refine lv_iload_n hx hb dX3_mendTop_32 rfl (lv_at hl 0 rfl) ?_
    have hPc := hP.sub (ws' := []) [] rfl
    have hDc := hD.sub (ws' := []) [] (by decide) rfl
    have hFc := va_free (wc := []) hD hS hA [] rfl
    refine va_calli (va_runSN (As := [.long pat, .int r_3]) (rest := []) ⟨hx, hb, hml, hown, hts⟩ (c_X5_hasCell l dC dI cI cC cS _ pat r_3 hq) ⟨va_cnB (host := RX5) 2 hts gX3_mendTop_X5_hasCell_n97 rfl rfl rfl (gn_nw_X3_97 hN) (hts _ kwX3_mendTop_ini_X5) (by decide +kernel) ⟨Nat.le_of_ble_eq_true rfl, Nat.le_of_ble_eq_true rfl⟩, (hts _ kwX3_mendTop_st_X5_hasCell), trivial⟩ (gn_preS hPc hK hN hDc) rfl rfl hl.1 rfl (lv_room (Nat.le_of_ble_eq_true rfl)) dX3_mendTop_33 ⟨Nat.zero_le _, Nat.zero_le _⟩) hS (fun q _ h => hFc q h) hFc (fun r_4 u t H1 locs ht hvm hq hB hz1 hk1 hS => ?_)
    obtain ⟨hP1, hK1, hD1⟩ := hB
    rw [ht] at hP1
    try dsimp only at hq
    obtain ⟨hP, hD⟩ := va_join (wr := [(aS, .inr (2, [.ref aF, .ref aC, .long pat, .long goal])), (aC, .inl (cI, 128, .inl col)), (aF, .inr (0, [.ref aK, .int made, .int mac])), (aK, .inl (cI, 6, .inl ks))]) (w1 := []) hP hD [] [0, 1, 2, 3] rfl rfl (by decide) (by decide) hk1 hFc hP1 hD1
    have hP := hP.sub (ws' := [(aS, .inr (2, [.ref aF, .ref aC, .long pat, .long goal])), (aC, .inl (cI, 128, .inl col)), (aF, .inr (0, [.ref aK, .int made, .int mac])), (aK, .inl (cI, 6, .inl ks))]) [0, 1, 2, 3] rfl
    have hD := hD.sub (ws' := [(aS, .inr (2, [.ref aF, .ref aC, .long pat, .long goal])), (aC, .inl (cI, 128, .inl col)), (aF, .inr (0, [.ref aK, .int made, .int mac])), (aK, .inl (cI, 6, .inl ks))]) [0, 1, 2, 3] (by decide) rfl
    generalize H1 = H at hP hS ⊢
    refine lv_if_ne (tgt := 42) hx hb dX3_mendTop_36 (by decide) (fun hc => ?_) (fun hc => ?_)
    · have hq := hq.1 hc
      refine lv_aload_n hx hb dX3_mendTop_42 rfl (lv_at hl 1 rfl) ?_
      refine lv_dup hx hb dX3_mendTop_43 rfl ?_
      refine va_get (D := (dC, dI)) (ci := 2) (v := .long pat) (C := RX3) (T := TX3) (N := 4) hx hb hts iwX3_mendTop_X3 hown hK hP 0 rfl rfl 2 (by decide) (hts _ kwX3_mendTop_22) (fun _ h9 => h9) rfl dX3_mendTop_44 ?_
      refine lv_lconst (v := 1) hx hb dX3_mendTop_47 (by decide) ?_
      refine lv_iload_n hx hb dX3_mendTop_48 rfl (lv_at hl 0 rfl) ?_
      refine lv_lshl hx hb dX3_mendTop_49 rfl ?_
      refine lv_ldc2 (v := -1) hx hb hown (hts _ kwX3_mendTop_101) dX3_mendTop_50 ?_
      refine lv_lxor hx hb dX3_mendTop_53 ?_
      refine lv_land hx hb dX3_mendTop_54 ?_
      refine va_put (D := (dC, dI)) (ci := 2) (v := .long (pat &&& (((1 : Int64) <<< ((r_3).toInt64 &&& (63 : Int64))) ^^^ (-1 : Int64)))) (ty := .long) (C := RX3) (T := TX3) (N := 4) hx hb hts iwX3_mendTop_X3 tyX3 tyX3_ok nmX3 hown hK hP hD hS 0 rfl rfl 2 (by decide) (hts _ kwX3_mendTop_22) (fun _ h9 => h9) rfl (by decide +kernel) rfl rfl (Nat.le_of_ble_eq_true rfl) dX3_mendTop_55 (fun H locs hP hD hS => ?_)
      have hP : va_P (dC, dI) vwCl [(aS, .inr (2, [.ref aF, .ref aC, .long (pat &&& (((1 : Int64) <<< ((r_3).toInt64 &&& (63 : Int64))) ^^^ (-1 : Int64))), .long goal])), (aC, .inl (cI, 128, .inl col)), (aF, .inr (0, [.ref aK, .int made, .int mac])), (aK, .inl (cI, 6, .inl ks))] H := hP
      have hD : va_D A [(aS, .inr (2, [.ref aF, .ref aC, .long (pat &&& (((1 : Int64) <<< ((r_3).toInt64 &&& (63 : Int64))) ^^^ (-1 : Int64))), .long goal])), (aC, .inl (cI, 128, .inl col)), (aF, .inr (0, [.ref aK, .int made, .int mac])), (aK, .inl (cI, 6, .inl ks))] := hD
      refine lv_aload_n hx hb dX3_mendTop_58 rfl (lv_at hl 1 rfl) ?_
      refine lv_iconst (v := 2) hx hb dX3_mendTop_59 (by decide) ?_
      refine lv_iload_n hx hb dX3_mendTop_60 rfl (lv_at hl 0 rfl) ?_
      refine lv_imul hx hb dX3_mendTop_61 ?_
      refine lv_iconst (v := 0) hx hb dX3_mendTop_62 (by decide) ?_
      have hPc := hP.sub (ws' := [(aS, .inr (2, [.ref aF, .ref aC, .long (pat &&& (((1 : Int64) <<< ((r_3).toInt64 &&& (63 : Int64))) ^^^ (-1 : Int64))), .long goal])), (aC, .inl (cI, 128, .inl col))]) [0, 1] rfl
      have hDc := hD.sub (ws' := [(aS, .inr (2, [.ref aF, .ref aC, .long (pat &&& (((1 : Int64) <<< ((r_3).toInt64 &&& (63 : Int64))) ^^^ (-1 : Int64))), .long goal])), (aC, .inl (cI, 128, .inl col))]) [0, 1] (by decide) rfl
      have hFc := va_free (wc := [(aS, .inr (2, [.ref aF, .ref aC, .long (pat &&& (((1 : Int64) <<< ((r_3).toInt64 &&& (63 : Int64))) ^^^ (-1 : Int64))), .long goal])), (aC, .inl (cI, 128, .inl col))]) hD hS hA [0, 1] rfl
      refine va_callv (va_runV (As := [.int ((2 : Int32) * r_3), .int (0 : Int32)]) (rest := []) ⟨hx, hb, hml, hown, hts⟩ (c_X3_setColour l dC dI cI cC cS aS aC aF _ (pat &&& (((1 : Int64) <<< ((r_3).toInt64 &&& (63 : Int64))) ^^^ (-1 : Int64))) goal col ((2 : Int32) * r_3) (0 : Int32) hq) (cwV 2 hts gX3_mendTop_X3_setColour rfl rfl rfl (by decide +kernel) ⟨Nat.le_of_ble_eq_true rfl, Nat.le_of_ble_eq_true rfl⟩) (gn_preV hPc hK hN hDc (ci := 2) (q0 := 0) rfl rfl) rfl rfl hl.1 rfl (lv_room (Nat.le_of_ble_eq_true rfl)) dX3_mendTop_63 ⟨Nat.zero_le _, Nat.zero_le _⟩) hS (fun q _ h => hFc q h) hFc (fun u t H1 locs ht hvm hq hB hz1 hk1 hS => ?_)
      obtain ⟨col__5, rfl⟩ : ∃ z, z = u := ⟨_, rfl⟩
      obtain ⟨hP1, hK1, hD1⟩ := hB
      rw [ht] at hP1
      try dsimp only at hq
      obtain ⟨hP, hD⟩ := va_join (wr := [(aF, .inr (0, [.ref aK, .int made, .int mac])), (aK, .inl (cI, 6, .inl ks))]) (w1 := [(aS, .inr (2, [.ref aF, .ref aC, .long (pat &&& (((1 : Int64) <<< ((r_3).toInt64 &&& (63 : Int64))) ^^^ (-1 : Int64))), .long goal])), (aC, .inl (cI, 128, .inl col__5))]) hP hD [0, 1] [2, 3] rfl rfl (by decide) (by decide) hk1 hFc hP1 hD1
      have hP := hP.sub (ws' := [(aS, .inr (2, [.ref aF, .ref aC, .long (pat &&& (((1 : Int64) <<< ((r_3).toInt64 &&& (63 : Int64))) ^^^ (-1 : Int64))), .long goal])), (aC, .inl (cI, 128, .inl col__5)), (aF, .inr (0, [.ref aK, .int made, .int mac])), (aK, .inl (cI, 6, .inl ks))]) [2, 3, 0, 1] rfl
      have hD := hD.sub (ws' := [(aS, .inr (2, [.ref aF, .ref aC, .long (pat &&& (((1 : Int64) <<< ((r_3).toInt64 &&& (63 : Int64))) ^^^ (-1 : Int64))), .long goal])), (aC, .inl (cI, 128, .inl col__5)), (aF, .inr (0, [.ref aK, .int made, .int mac])), (aK, .inl (cI, 6, .inl ks))]) [2, 3, 0, 1] (by decide) rfl
      generalize H1 = H at hP hS ⊢
      refine lv_aload_n hx hb dX3_mendTop_66 rfl (lv_at hl 1 rfl) ?_
      refine lv_iconst (v := 2) hx hb dX3_mendTop_67 (by decide) ?_
      refine lv_iload_n hx hb dX3_mendTop_68 rfl (lv_at hl 0 rfl) ?_
      refine lv_imul hx hb dX3_mendTop_69 ?_
      refine lv_iconst (v := 1) hx hb dX3_mendTop_70 (by decide) ?_
      refine lv_iadd hx hb dX3_mendTop_71 ?_
      refine lv_iconst (v := 0) hx hb dX3_mendTop_72 (by decide) ?_
      have hPc := hP.sub (ws' := [(aS, .inr (2, [.ref aF, .ref aC, .long (pat &&& (((1 : Int64) <<< ((r_3).toInt64 &&& (63 : Int64))) ^^^ (-1 : Int64))), .long goal])), (aC, .inl (cI, 128, .inl col__5))]) [0, 1] rfl
      have hDc := hD.sub (ws' := [(aS, .inr (2, [.ref aF, .ref aC, .long (pat &&& (((1 : Int64) <<< ((r_3).toInt64 &&& (63 : Int64))) ^^^ (-1 : Int64))), .long goal])), (aC, .inl (cI, 128, .inl col__5))]) [0, 1] (by decide) rfl
      have hFc := va_free (wc := [(aS, .inr (2, [.ref aF, .ref aC, .long (pat &&& (((1 : Int64) <<< ((r_3).toInt64 &&& (63 : Int64))) ^^^ (-1 : Int64))), .long goal])), (aC, .inl (cI, 128, .inl col__5))]) hD hS hA [0, 1] rfl
      refine va_callv (va_runV (As := [.int (((2 : Int32) * r_3) + (1 : Int32)), .int (0 : Int32)]) (rest := []) ⟨hx, hb, hml, hown, hts⟩ (c_X3_setColour l dC dI cI cC cS aS aC aF _ (pat &&& (((1 : Int64) <<< ((r_3).toInt64 &&& (63 : Int64))) ^^^ (-1 : Int64))) goal col__5 (((2 : Int32) * r_3) + (1 : Int32)) (0 : Int32) hq) (cwV 2 hts gX3_mendTop_X3_setColour rfl rfl rfl (by decide +kernel) ⟨Nat.le_of_ble_eq_true rfl, Nat.le_of_ble_eq_true rfl⟩) (gn_preV hPc hK hN hDc (ci := 2) (q0 := 0) rfl rfl) rfl rfl hl.1 rfl (lv_room (Nat.le_of_ble_eq_true rfl)) dX3_mendTop_73 ⟨Nat.zero_le _, Nat.zero_le _⟩) hS (fun q _ h => hFc q h) hFc (fun u t H1 locs ht hvm hq hB hz1 hk1 hS => ?_)
      obtain ⟨col__6, rfl⟩ : ∃ z, z = u := ⟨_, rfl⟩
      obtain ⟨hP1, hK1, hD1⟩ := hB
      rw [ht] at hP1
      try dsimp only at hq
      obtain ⟨hP, hD⟩ := va_join (wr := [(aF, .inr (0, [.ref aK, .int made, .int mac])), (aK, .inl (cI, 6, .inl ks))]) (w1 := [(aS, .inr (2, [.ref aF, .ref aC, .long (pat &&& (((1 : Int64) <<< ((r_3).toInt64 &&& (63 : Int64))) ^^^ (-1 : Int64))), .long goal])), (aC, .inl (cI, 128, .inl col__6))]) hP hD [0, 1] [2, 3] rfl rfl (by decide) (by decide) hk1 hFc hP1 hD1
      have hP := hP.sub (ws' := [(aS, .inr (2, [.ref aF, .ref aC, .long (pat &&& (((1 : Int64) <<< ((r_3).toInt64 &&& (63 : Int64))) ^^^ (-1 : Int64))), .long goal])), (aC, .inl (cI, 128, .inl col__6)), (aF, .inr (0, [.ref aK, .int made, .int mac])), (aK, .inl (cI, 6, .inl ks))]) [2, 3, 0, 1] rfl
      have hD := hD.sub (ws' := [(aS, .inr (2, [.ref aF, .ref aC, .long (pat &&& (((1 : Int64) <<< ((r_3).toInt64 &&& (63 : Int64))) ^^^ (-1 : Int64))), .long goal])), (aC, .inl (cI, 128, .inl col__6)), (aF, .inr (0, [.ref aK, .int made, .int mac])), (aK, .inl (cI, 6, .inl ks))]) [2, 3, 0, 1] (by decide) rfl
      generalize H1 = H at hP hS ⊢
      refine lv_iload_n hx hb dX3_mendTop_76 rfl (lv_at hl 0 rfl) ?_
      exact hret _ _ _ _ _ _ _ dX3_mendTop_77 hP hD hS hq
    · have hq := hq.2 hc
      refine lv_bipush (v := -3) hx hb dX3_mendTop_39 (by decide) ?_
      exact hret _ _ _ _ _ _ _ dX3_mendTop_41 hP hD hS hq
  · have hq := hq.2 hc
    refine lv_iconst (v := -1) hx hb dX3_mendTop_12 (by decide) ?_
    exact hret _ _ _ _ _ _ _ dX3_mendTop_13 hP hD hS hq
set_option maxRecDepth 20000 in
theorem kwX3_changeGoal_st_X5_isRow : Cond.static yX5_isRow ∈ wsX3_changeGoal := by decide +kernel
set_option maxRecDepth 20000 in
theorem kwX3_changeGoal_ini_X5 : Cond.initialized RX5 ∈ wsX3_changeGoal := by decide +kernel
set_option maxRecDepth 20000 in
theorem kwX3_changeGoal_26 : Cond.fieldLink RX3 26 "PunchedFolds$Sheet" "goal" "J" ∈ wsX3_changeGoal := by decide +kernel
set_option maxRecDepth 20000 in
theorem iwX3_changeGoal_X3 : ∀ w ∈ wsX30, w ∈ wsX3_changeGoal := by decide +kernel
set_option maxRecDepth 20000 in
theorem kwX3_changeGoal_st_X5_maskOfRow : Cond.static yX5_maskOfRow ∈ wsX3_changeGoal := by decide +kernel
set_option maxHeartbeats 4000000 in
set_option maxRecDepth 100000 in
theorem c_X3_changeGoal (l : Launch) (dC : Nat → ClassId) (dI : Nat → Nat → Nat) (cI cC cS : ClassId) (aS : Nat) (aC : Nat) (aF : Nat) (sz : Nat) (pat : Int64) (goal : Int64) (x1 : Int32) (x2 : Int32) {post : Int32 → Int64 → Prop} (hq : wp_X3_changeGoal goal x1 x2 post) : Met l yX3_changeGoal wsX3_changeGoal ({ frames := 1, cells := 0, slots := 0, locals := 22 } : Room) (gn_Pre (dC, dI) cI cC cS [.ref aS, .int x1, .int x2] sz [(aS, .inr (2, [.ref aF, .ref aC, .long pat, .long goal]))]) (va_Qi (fun (r : Int32) (u : Int64) => post r u) (fun (u : Int64) t => va_P (dC, dI) vwCl [(aS, .inr (2, [.ref aF, .ref aC, .long pat, .long u]))] t.heap ∧ va_K (dC, dI) vwCl (gn_tys cI cC cS) t ∧ va_D (va_A [(aS, .inr (2, [.ref aF, .ref aC, .long pat, .long goal]))] sz) [(aS, .inr (2, [.ref aF, .ref aC, .long pat, .long u]))]) (va_A [(aS, .inr (2, [.ref aF, .ref aC, .long pat, .long goal]))] sz)) 0 0 (va_A [(aS, .inr (2, [.ref aF, .ref aC, .long pat, .long goal]))] sz) := by
  unfold wp_X3_changeGoal at hq
  refine Met.ofW (cc := cX3_changeGoal) (maxL := 4) (ret := (some .int)) (by decide) rfl ?_
  intro p e s m args below meth c s₁ B hml hv
  obtain ⟨rfl, hsz, hP, hK, hN, hD0⟩ := hv
  have hx := B.exec
  have hb := B.bytes
  have hr := B.returns
  have hts := atoms_spec (ws := wsX3_changeGoal) B.pre
  have hown : s.vm.findClass RX3 = some m.cls := findClass_of_methodNamed B.named
  have hlocks := B.notSynchronized
  subst hsz
  have hD := hD0.self (sz := s.heap.size)
  generalize hAe : va_A [(aS, .inr (2, [.ref aF, .ref aC, .long pat, .long goal]))] s.heap.size = A at hD ⊢
  have hA : ∀ q : Nat, s.heap.size ≤ q → A q := fun q h => by rw [← hAe]; exact Or.inr h
  have hS : va_S A s.heap s.heap [] := va_S.rf
  have hl := lv_entry ([.ref aS, .int x1, .int x2] : List Value) (n := 4) (Nat.le_of_ble_eq_true rfl)
  rw [lg_entry_eq]
  generalize (lg_sl ([.ref aS, .int x1, .int x2] : List Value) ++ List.replicate (4 - (lg_sl ([.ref aS, .int x1, .int x2] : List Value)).length) Slot.unset).toArray = ls at hl ⊢
  have hl : lv_has ls 4 [(0, .ref aS), (1, .int x1), (2, .int x2)] := hl
  refine gn_Q (hret := fun Q => ∀ (pc : Nat) (ls : Array Slot) (H : Heap) (locs : List Loc) (r : Int32) (m_goal : Int64), decode cX3_changeGoal pc = .ok (.ireturn, 1) → va_P (dC, dI) vwCl [(aS, .inr (2, [.ref aF, .ref aC, .long pat, .long m_goal]))] H → va_D A [(aS, .inr (2, [.ref aF, .ref aC, .long pat, .long m_goal]))] → va_S A s.heap H locs → post r m_goal → W p l e ({ frames := 1, cells := 0, slots := 0, locals := 22 } : Room) s m ([.ref aS, .int x1, .int x2] : List Value).toArray below meth c H locs 0 0 Q (F0 m pc ls [.int r])) (fun Q hret => ?_) ?_
  rotate_left
  · intro pc ls H locs r m_goal hdg hP hD hS hpost
    exact W.iret (v := r) hx hb hr (fun t ht hW => ⟨⟨r, m_goal, rfl, hpost, by rw [ht]; exact hP, va_K.moved hW.alike hK, hD⟩, hS.F ht⟩) hS.2.2 hdg
  refine lv_iload_n hx hb dX3_changeGoal_0 rfl (lv_at hl 1 rfl) ?_
  have hPc := hP.sub (ws' := []) [] rfl
  have hDc := hD.sub (ws' := []) [] (by decide) rfl
  have hFc := va_free (wc := []) hD hS hA [] rfl
  refine va_calli (va_runSN (As := [.int x1]) (rest := []) ⟨hx, hb, hml, hown, hts⟩ (c_X5_isRow l dC dI cI cC cS _ x1 hq) ⟨va_cnB (host := RX5) 1 hts gX3_changeGoal_X5_isRow_n103 rfl rfl rfl (gn_nw_X3_103 hN) (hts _ kwX3_changeGoal_ini_X5) (by decide +kernel) ⟨Nat.le_of_ble_eq_true rfl, Nat.le_of_ble_eq_true rfl⟩, (hts _ kwX3_changeGoal_st_X5_isRow), trivial⟩ (gn_preS hPc hK hN hDc) rfl rfl hl.1 rfl (lv_room (Nat.le_of_ble_eq_true rfl)) dX3_changeGoal_1 ⟨Nat.zero_le _, Nat.zero_le _⟩) hS (fun q _ h => hFc q h) hFc (fun r_1 u t H1 locs ht hvm hq hB hz1 hk1 hS => ?_)
  obtain ⟨hP1, hK1, hD1⟩ := hB
  rw [ht] at hP1
  try dsimp only at hq
  obtain ⟨hP, hD⟩ := va_join (wr := [(aS, .inr (2, [.ref aF, .ref aC, .long pat, .long goal]))]) (w1 := []) hP hD [] [0] rfl rfl (by decide) (by decide) hk1 hFc hP1 hD1
  have hP := hP.sub (ws' := [(aS, .inr (2, [.ref aF, .ref aC, .long pat, .long goal]))]) [0] rfl
  have hD := hD.sub (ws' := [(aS, .inr (2, [.ref aF, .ref aC, .long pat, .long goal]))]) [0] (by decide) rfl
  generalize H1 = H at hP hS ⊢
  refine lv_if_ne (tgt := 9) hx hb dX3_changeGoal_4 (by decide) (fun hc => ?_) (fun hc => ?_)
  · have hq := hq.1 hc
    refine lv_iload_n hx hb dX3_changeGoal_9 rfl (lv_at hl 2 rfl) ?_
    have hq := hq (∀ (H : Heap) (locs : List Loc) (ls : Array Slot), va_P (dC, dI) vwCl [(aS, .inr (2, [.ref aF, .ref aC, .long pat, .long goal]))] H → va_D A [(aS, .inr (2, [.ref aF, .ref aC, .long pat, .long goal]))] → va_S A s.heap H locs → lv_has ls 4 [] → W p l e ({ frames := 1, cells := 0, slots := 0, locals := 22 } : Room) s m ([.ref aS, .int x1, .int x2] : List Value).toArray below meth c H locs 0 0 Q (F0 m 20 ls [])) (by
      intro  hq H locs ls hP hD hS hl
      refine lv_bipush (v := -2) hx hb dX3_changeGoal_20 (by decide) ?_
      exact hret _ _ _ _ _ _ dX3_changeGoal_22 hP hD hS hq)
    refine lv_if_lt (tgt := 20) hx hb dX3_changeGoal_10 (by decide) (fun hc => ?_) (fun hc => ?_)
    · have hq := hq.1 hc
      exact hq _ _ _ hP hD hS (lv_sub hl [] rfl)
    · have hq := hq.2 hc
      refine lv_iload_n hx hb dX3_changeGoal_13 rfl (lv_at hl 2 rfl) ?_
      refine lv_sipush (v := 255) hx hb dX3_changeGoal_14 (by decide) ?_
      refine lv_icmp_le (tgt := 23) hx hb dX3_changeGoal_17 (by decide) (fun hc => ?_) (fun hc => ?_)
      · have hq := hq.1 hc
        refine lv_aload_n hx hb dX3_changeGoal_23 rfl (lv_at hl 0 rfl) ?_
        refine va_get (D := (dC, dI)) (ci := 2) (v := .long goal) (C := RX3) (T := TX3) (N := 4) hx hb hts iwX3_changeGoal_X3 hown hK hP 0 rfl rfl 3 (by decide) (hts _ kwX3_changeGoal_26) (fun _ h9 => h9) rfl dX3_changeGoal_24 ?_
        refine lv_iload_n hx hb dX3_changeGoal_27 rfl (lv_at hl 1 rfl) ?_
        have hPc := hP.sub (ws' := []) [] rfl
        have hDc := hD.sub (ws' := []) [] (by decide) rfl
        have hFc := va_free (wc := []) hD hS hA [] rfl
        refine va_calli (va_runSN (As := [.long goal, .int x1]) (rest := []) ⟨hx, hb, hml, hown, hts⟩ (c_X5_maskOfRow l dC dI cI cC cS _ goal x1 hq) ⟨va_cnB (host := RX5) 2 hts gX3_changeGoal_X5_maskOfRow_n106 rfl rfl rfl (gn_nw_X3_106 hN) (hts _ kwX3_changeGoal_ini_X5) (by decide +kernel) ⟨Nat.le_of_ble_eq_true rfl, Nat.le_of_ble_eq_true rfl⟩, (hts _ kwX3_changeGoal_st_X5_maskOfRow), trivial⟩ (gn_preS hPc hK hN hDc) rfl rfl hl.1 rfl (lv_room (Nat.le_of_ble_eq_true rfl)) dX3_changeGoal_28 ⟨Nat.zero_le _, Nat.zero_le _⟩) hS (fun q _ h => hFc q h) hFc (fun r_2 u t H1 locs ht hvm hq hB hz1 hk1 hS => ?_)
        obtain ⟨hP1, hK1, hD1⟩ := hB
        rw [ht] at hP1
        try dsimp only at hq
        obtain ⟨hP, hD⟩ := va_join (wr := [(aS, .inr (2, [.ref aF, .ref aC, .long pat, .long goal]))]) (w1 := []) hP hD [] [0] rfl rfl (by decide) (by decide) hk1 hFc hP1 hD1
        have hP := hP.sub (ws' := [(aS, .inr (2, [.ref aF, .ref aC, .long pat, .long goal]))]) [0] rfl
        have hD := hD.sub (ws' := [(aS, .inr (2, [.ref aF, .ref aC, .long pat, .long goal]))]) [0] (by decide) rfl
        generalize H1 = H at hP hS ⊢
        refine lv_istore_n (lv' := [(3, .int r_2), (0, .ref aS), (1, .int x1), (2, .int x2)]) hx hb dX3_changeGoal_31 rfl hl (by decide) rfl (fun ls hl => ?_)
        refine lv_aload_n hx hb dX3_changeGoal_32 rfl (lv_at hl 1 rfl) ?_
        refine lv_dup hx hb dX3_changeGoal_33 rfl ?_
        refine va_get (D := (dC, dI)) (ci := 2) (v := .long goal) (C := RX3) (T := TX3) (N := 4) hx hb hts iwX3_changeGoal_X3 hown hK hP 0 rfl rfl 3 (by decide) (hts _ kwX3_changeGoal_26) (fun _ h9 => h9) rfl dX3_changeGoal_34 ?_
        refine lv_iload_n hx hb dX3_changeGoal_37 rfl (lv_at hl 0 rfl) ?_
        refine lv_iload_n hx hb dX3_changeGoal_38 rfl (lv_at hl 3 rfl) ?_
        refine lv_ixor hx hb dX3_changeGoal_39 ?_
        refine lv_i2l hx hb dX3_changeGoal_40 rfl ?_
        refine lv_bipush (v := 8) hx hb dX3_changeGoal_41 (by decide) ?_
        refine lv_iload_n hx hb dX3_changeGoal_43 rfl (lv_at hl 2 rfl) ?_
        refine lv_imul hx hb dX3_changeGoal_44 ?_
        refine lv_lshl hx hb dX3_changeGoal_45 rfl ?_
        refine lv_lxor hx hb dX3_changeGoal_46 ?_
        refine va_put (D := (dC, dI)) (ci := 2) (v := .long (goal ^^^ ((((r_2 ^^^ x2)).toInt64) <<< ((((8 : Int32) * x1)).toInt64 &&& (63 : Int64))))) (ty := .long) (C := RX3) (T := TX3) (N := 4) hx hb hts iwX3_changeGoal_X3 tyX3 tyX3_ok nmX3 hown hK hP hD hS 0 rfl rfl 3 (by decide) (hts _ kwX3_changeGoal_26) (fun _ h9 => h9) rfl (by decide +kernel) rfl rfl (Nat.le_of_ble_eq_true rfl) dX3_changeGoal_47 (fun H locs hP hD hS => ?_)
        have hP : va_P (dC, dI) vwCl [(aS, .inr (2, [.ref aF, .ref aC, .long pat, .long (goal ^^^ ((((r_2 ^^^ x2)).toInt64) <<< ((((8 : Int32) * x1)).toInt64 &&& (63 : Int64))))]))] H := hP
        have hD : va_D A [(aS, .inr (2, [.ref aF, .ref aC, .long pat, .long (goal ^^^ ((((r_2 ^^^ x2)).toInt64) <<< ((((8 : Int32) * x1)).toInt64 &&& (63 : Int64))))]))] := hD
        refine lv_iload_n hx hb dX3_changeGoal_50 rfl (lv_at hl 0 rfl) ?_
        exact hret _ _ _ _ _ _ dX3_changeGoal_51 hP hD hS hq
      · have hq := hq.2 hc
        exact hq _ _ _ hP hD hS (lv_sub hl [] rfl)
  · have hq := hq.2 hc
    refine lv_iconst (v := -1) hx hb dX3_changeGoal_7 (by decide) ?_
    exact hret _ _ _ _ _ _ dX3_changeGoal_8 hP hD hS hq
