def wp_X5_cellOf (x0 : Int32) (post : Int32 → Prop) : Prop :=
  post (x0 >>> ((1 : Int32) &&& (31 : Int32)))
def wp_X5_hasCell (x0 : Int64) (x2 : Int32) (post : Int32 → Prop) : Prop :=
  ((¬ (lg_cmp ((((x0).toUInt64 >>> ((x2).toInt64.toUInt64 &&& Int64.toUInt64 63)).toInt64) &&& (1 : Int64)) (1 : Int64)) = 0) → ((0 : Int32) = 0 ∨ (0 : Int32) = 1) ∧ (post (0 : Int32))) ∧ (((lg_cmp ((((x0).toUInt64 >>> ((x2).toInt64.toUInt64 &&& Int64.toUInt64 63)).toInt64) &&& (1 : Int64)) (1 : Int64)) = 0) → ((1 : Int32) = 0 ∨ (1 : Int32) = 1) ∧ (post (1 : Int32)))
def wp_X5_isRow (x0 : Int32) (post : Int32 → Prop) : Prop :=
  ∀ (P14 : Prop), ((((0 : Int32) = 0 ∨ (0 : Int32) = 1) ∧ (post (0 : Int32))) → P14 ) → ((x0 < 0) → P14) ∧ ((¬ x0 < 0) → (((8 : Int32) ≤ x0) → P14) ∧ ((¬ (8 : Int32) ≤ x0) → ((1 : Int32) = 0 ∨ (1 : Int32) = 1) ∧ (post (1 : Int32))))
def wp_X5_isCell (x0 : Int32) (post : Int32 → Prop) : Prop :=
  ∀ (P14 : Prop), ((((0 : Int32) = 0 ∨ (0 : Int32) = 1) ∧ (post (0 : Int32))) → P14 ) → ((x0 < 0) → P14) ∧ ((¬ x0 < 0) → (((64 : Int32) ≤ x0) → P14) ∧ ((¬ (64 : Int32) ≤ x0) → ((1 : Int32) = 0 ∨ (1 : Int32) = 1) ∧ (post (1 : Int32))))
def wp_X5_isError (x0 : Int32) (post : Int32 → Prop) : Prop :=
  ∀ (P14 : Prop), ((((0 : Int32) = 0 ∨ (0 : Int32) = 1) ∧ (post (0 : Int32))) → P14 ) → ((0 ≤ x0) → P14) ∧ ((¬ 0 ≤ x0) → ((x0 = (-6 : Int32)) → P14) ∧ ((¬ x0 = (-6 : Int32)) → ((1 : Int32) = 0 ∨ (1 : Int32) = 1) ∧ (post (1 : Int32))))
def wp_X5_maskOfRow (x0 : Int64) (x2 : Int32) (post : Int32 → Prop) : Prop :=
  post ((((((x0).toUInt64 >>> ((((8 : Int32) * x2)).toInt64.toUInt64 &&& Int64.toUInt64 63)).toInt64)).toInt32) &&& (255 : Int32))
def wp_X5_symmetriesAt (x0 : Int64) (x2 : Int32) (post : Int32 → Prop) : Prop :=
  ∀ w3_1 : Int32, w3_1 = (x2 - x2 / (8 : Int32) * (8 : Int32)) → ∀ w4_2 : Int32, w4_2 = (x2 / (8 : Int32)) → ∀ w5_3 : Int32, w5_3 = ((7 : Int32) - w3_1) → ∀ w6_4 : Int32, w6_4 = ((7 : Int32) - w4_2) → wp_X5_hasCell x0 x2 (fun r_5 => wp_X5_hasCell x0 (((8 : Int32) * w4_2) + w5_3) (fun r_6 => ∀ (P53 : Int32 → Prop), (∀ (t_7 : Int32), (wp_X5_hasCell x0 (((8 : Int32) * w6_4) + w3_1) (fun r_8 => ∀ (P78 : Int32 → Prop), (∀ (t_9 : Int32), (∀ w8_10 : Int32, w8_10 = (t_7 ||| t_9) → wp_X5_hasCell x0 (((8 : Int32) * w6_4) + w5_3) (fun r_11 => ∀ (P105 : Int32 → Prop), (∀ (t_12 : Int32), (∀ w8_13 : Int32, w8_13 = (w8_10 ||| t_12) → wp_X5_hasCell x0 (((8 : Int32) * w3_1) + w4_2) (fun r_14 => ∀ (P132 : Int32 → Prop), (∀ (t_15 : Int32), (post (w8_13 ||| t_15)) → P132 t_15) → ((¬ r_5 = r_14) → P132 (0 : Int32)) ∧ ((r_5 = r_14) → P132 (8 : Int32)))) → P105 t_12) → ((¬ r_5 = r_11) → P105 (0 : Int32)) ∧ ((r_5 = r_11) → P105 (4 : Int32)))) → P78 t_9) → ((¬ r_5 = r_8) → P78 (0 : Int32)) ∧ ((r_5 = r_8) → P78 (2 : Int32)))) → P53 t_7) → ((¬ r_5 = r_6) → P53 (0 : Int32)) ∧ ((r_5 = r_6) → P53 (1 : Int32))))
def wp_X0_uppermostCells (made : Int32) (mac : Int32) (ks : Nat → Int32) (x1 : Int32) (x2 : Int32) (x3 : Int32) (post : Int64 → Prop) : Prop :=
  ∀ (P6 : Int64 → Int32 → Prop), (∀ (v4_1 : Int64) (v6_2 : Int32), (((x3 ≤ v6_2) → post v4_1) ∧ ((¬ x3 ≤ v6_2) → wp_X0_upperSide made mac ks x1 x2 v6_2 (fun r_3 => wp_X5_cellOf r_3 (fun r_4 => ∀ w4_5 : Int64, w4_5 = (v4_1 ||| ((1 : Int64) <<< ((r_4).toInt64 &&& (63 : Int64)))) → P6 w4_5 (v6_2 + (1 : Int32)))))) → P6 v4_1 v6_2) → P6 (0 : Int64) (0 : Int32)
def wp_X0_punchesFor (made : Int32) (mac : Int32) (ks : Nat → Int32) (x1 : Int64) (post : Int32 → Prop) : Prop :=
  wp_X0_columns mac (fun r_1 => wp_X0_rows made mac (fun r_2 => ∀ (P17 : Int32 → Int32 → Prop), (∀ (v5_3 : Int32) (v6_4 : Int32), (((r_2 ≤ v6_4) → post v5_3) ∧ ((¬ r_2 ≤ v6_4) → ∀ (P27 : Int32 → Int32 → Prop), (∀ (v5_5 : Int32) (v7_6 : Int32), (((r_1 ≤ v7_6) → P17 v5_5 (v6_4 + (1 : Int32))) ∧ ((¬ r_1 ≤ v7_6) → wp_X0_layers made (fun r_7 => wp_X0_uppermostCells made mac ks v7_6 v6_4 r_7 (fun r_8 => ∀ w10_9 : Int64, w10_9 = (r_8 &&& x1) → ∀ (P71 : Prop), ((∀ (P86 : Int32 → Prop), (∀ (t_10 : Int32), (∀ w5_11 : Int32, w5_11 = (v5_5 + t_10) → P27 w5_11 (v7_6 + (1 : Int32))) → P86 t_10) → ((¬ (lg_cmp w10_9 r_8) = 0) → P86 (0 : Int32)) ∧ (((lg_cmp w10_9 r_8) = 0) → P86 (1 : Int32))) → P71 ) → (((lg_cmp w10_9 (0 : Int64)) = 0) → P71) ∧ ((¬ (lg_cmp w10_9 (0 : Int64)) = 0) → (((lg_cmp w10_9 r_8) = 0) → P71) ∧ ((¬ (lg_cmp w10_9 r_8) = 0) → post (-6 : Int32))))))) → P27 v5_5 v7_6) → P27 v5_3 (0 : Int32))) → P17 v5_3 v6_4) → P17 (0 : Int32) (0 : Int32)))
set_option maxHeartbeats 4000000 in
set_option maxRecDepth 100000 in
theorem c_X5_cellOf (l : Launch) (dC : Nat → ClassId) (dI : Nat → Nat → Nat) (cI cC cS : ClassId) (sz : Nat) (x0 : Int32) {post : Int32 → Prop} (hq : wp_X5_cellOf x0 post) : Met l yX5_cellOf wsX5_cellOf ({ frames := 0, cells := 0, slots := 0, locals := 0 } : Room) (gn_Pre (dC, dI) cI cC cS [.int x0] sz []) (va_Qi (fun (r : Int32) (u : Unit) => post r) (fun (u : Unit) t => va_P (dC, dI) vwCl [] t.heap ∧ va_K (dC, dI) vwCl (gn_tys cI cC cS) t ∧ va_D (va_A [] sz) []) (va_A [] sz)) 0 0 (va_A [] sz) := by
  unfold wp_X5_cellOf at hq
  refine Met.ofW (cc := cX5_cellOf) (maxL := 1) (ret := (some .int)) (by decide) rfl ?_
  intro p e s m args below meth c s₁ B hml hv
  obtain ⟨rfl, hsz, hP, hK, hN, hD0⟩ := hv
  have hx := B.exec
  have hb := B.bytes
  have hr := B.returns
  have hts := atoms_spec (ws := wsX5_cellOf) B.pre
  have hown : s.vm.findClass RX5 = some m.cls := findClass_of_methodNamed B.named
  have hlocks := B.notSynchronized
  subst hsz
  have hD := hD0.self (sz := s.heap.size)
  generalize hAe : va_A [] s.heap.size = A at hD ⊢
  have hA : ∀ q : Nat, s.heap.size ≤ q → A q := fun q h => by rw [← hAe]; exact Or.inr h
  have hS : va_S A s.heap s.heap [] := va_S.rf
  have hl := lv_entry ([.int x0] : List Value) (n := 1) (Nat.le_of_ble_eq_true rfl)
  rw [lg_entry_eq]
  generalize (lg_sl ([.int x0] : List Value) ++ List.replicate (1 - (lg_sl ([.int x0] : List Value)).length) Slot.unset).toArray = ls at hl ⊢
  have hl : lv_has ls 1 [(0, .int x0)] := hl
  refine gn_Q (hret := fun Q => ∀ (pc : Nat) (ls : Array Slot) (H : Heap) (locs : List Loc) (r : Int32) , decode cX5_cellOf pc = .ok (.ireturn, 1) → va_P (dC, dI) vwCl [] H → va_D A [] → va_S A s.heap H locs → post r → W p l e ({ frames := 0, cells := 0, slots := 0, locals := 0 } : Room) s m ([.int x0] : List Value).toArray below meth c H locs 0 0 Q (F0 m pc ls [.int r])) (fun Q hret => ?_) ?_
  rotate_left
  · intro pc ls H locs r hdg hP hD hS hpost
    exact W.iret (v := r) hx hb hr (fun t ht hW => ⟨⟨r, (), rfl, hpost, by rw [ht]; exact hP, va_K.moved hW.alike hK, hD⟩, hS.F ht⟩) hS.2.2 hdg
  refine lv_iload_n hx hb dX5_cellOf_0 rfl (lv_at hl 0 rfl) ?_
  refine lv_iconst (v := 1) hx hb dX5_cellOf_1 (by decide) ?_
  refine lv_ishr hx hb dX5_cellOf_2 ?_
  exact hret _ _ _ _ _ dX5_cellOf_3 hP hD hS hq
set_option maxHeartbeats 4000000 in
set_option maxRecDepth 100000 in
theorem c_X5_hasCell (l : Launch) (dC : Nat → ClassId) (dI : Nat → Nat → Nat) (cI cC cS : ClassId) (sz : Nat) (x0 : Int64) (x2 : Int32) {post : Int32 → Prop} (hq : wp_X5_hasCell x0 x2 post) : Met l yX5_hasCell wsX5_hasCell ({ frames := 0, cells := 0, slots := 0, locals := 0 } : Room) (gn_Pre (dC, dI) cI cC cS [.long x0, .int x2] sz []) (va_Qi (fun (r : Int32) (u : Unit) => post r) (fun (u : Unit) t => va_P (dC, dI) vwCl [] t.heap ∧ va_K (dC, dI) vwCl (gn_tys cI cC cS) t ∧ va_D (va_A [] sz) []) (va_A [] sz)) 0 0 (va_A [] sz) := by
  unfold wp_X5_hasCell at hq
  refine Met.ofW (cc := cX5_hasCell) (maxL := 3) (ret := (some .boolean)) (by decide) rfl ?_
  intro p e s m args below meth c s₁ B hml hv
  obtain ⟨rfl, hsz, hP, hK, hN, hD0⟩ := hv
  have hx := B.exec
  have hb := B.bytes
  have hr := B.returns
  have hts := atoms_spec (ws := wsX5_hasCell) B.pre
  have hown : s.vm.findClass RX5 = some m.cls := findClass_of_methodNamed B.named
  have hlocks := B.notSynchronized
  subst hsz
  have hD := hD0.self (sz := s.heap.size)
  generalize hAe : va_A [] s.heap.size = A at hD ⊢
  have hA : ∀ q : Nat, s.heap.size ≤ q → A q := fun q h => by rw [← hAe]; exact Or.inr h
  have hS : va_S A s.heap s.heap [] := va_S.rf
  have hl := lv_entry ([.long x0, .int x2] : List Value) (n := 3) (Nat.le_of_ble_eq_true rfl)
  rw [lg_entry_eq]
  generalize (lg_sl ([.long x0, .int x2] : List Value) ++ List.replicate (3 - (lg_sl ([.long x0, .int x2] : List Value)).length) Slot.unset).toArray = ls at hl ⊢
  have hl : lv_has ls 3 [(0, .long x0), (2, .int x2)] := hl
  refine gn_Q (hret := fun Q => ∀ (pc : Nat) (ls : Array Slot) (H : Heap) (locs : List Loc) (r : Int32) , decode cX5_hasCell pc = .ok (.ireturn, 1) → va_P (dC, dI) vwCl [] H → va_D A [] → va_S A s.heap H locs → (r = 0 ∨ r = 1) → post r → W p l e ({ frames := 0, cells := 0, slots := 0, locals := 0 } : Room) s m ([.long x0, .int x2] : List Value).toArray below meth c H locs 0 0 Q (F0 m pc ls [.int r])) (fun Q hret => ?_) ?_
  rotate_left
  · intro pc ls H locs r hdg hP hD hS hz hpost
    exact W.zret (v := r) hx hb hr (gn_nz hz) (fun t ht hW => ⟨⟨r, (), rfl, hpost, by rw [ht]; exact hP, va_K.moved hW.alike hK, hD⟩, hS.F ht⟩) hS.2.2 hdg
  refine lv_lload_n hx hb dX5_hasCell_0 rfl (lv_at hl 0 rfl) ?_
  refine lv_iload_n hx hb dX5_hasCell_1 rfl (lv_at hl 1 rfl) ?_
  refine lv_lushr hx hb dX5_hasCell_2 rfl ?_
  refine lv_lconst (v := 1) hx hb dX5_hasCell_3 (by decide) ?_
  refine lv_land hx hb dX5_hasCell_4 ?_
  refine lv_lconst (v := 1) hx hb dX5_hasCell_5 (by decide) ?_
  refine W.lcmp hx hb dX5_hasCell_6 ?_
  refine lv_if_ne (tgt := 14) hx hb dX5_hasCell_7 (by decide) (fun hc => ?_) (fun hc => ?_)
  · have hq := hq.1 hc
    refine lv_iconst (v := 0) hx hb dX5_hasCell_14 (by decide) ?_
    have hz := hq.1
    have hq := hq.2
    exact hret _ _ _ _ _ dX5_hasCell_15 hP hD hS hz hq
  · have hq := hq.2 hc
    refine lv_iconst (v := 1) hx hb dX5_hasCell_10 (by decide) ?_
    refine lv_goto (tgt := 15) hx hb dX5_hasCell_11 (by decide) ?_
    have hz := hq.1
    have hq := hq.2
    exact hret _ _ _ _ _ dX5_hasCell_15 hP hD hS hz hq
set_option maxHeartbeats 4000000 in
set_option maxRecDepth 100000 in
theorem c_X5_isRow (l : Launch) (dC : Nat → ClassId) (dI : Nat → Nat → Nat) (cI cC cS : ClassId) (sz : Nat) (x0 : Int32) {post : Int32 → Prop} (hq : wp_X5_isRow x0 post) : Met l yX5_isRow wsX5_isRow ({ frames := 0, cells := 0, slots := 0, locals := 0 } : Room) (gn_Pre (dC, dI) cI cC cS [.int x0] sz []) (va_Qi (fun (r : Int32) (u : Unit) => post r) (fun (u : Unit) t => va_P (dC, dI) vwCl [] t.heap ∧ va_K (dC, dI) vwCl (gn_tys cI cC cS) t ∧ va_D (va_A [] sz) []) (va_A [] sz)) 0 0 (va_A [] sz) := by
  unfold wp_X5_isRow at hq
  refine Met.ofW (cc := cX5_isRow) (maxL := 1) (ret := (some .boolean)) (by decide) rfl ?_
  intro p e s m args below meth c s₁ B hml hv
  obtain ⟨rfl, hsz, hP, hK, hN, hD0⟩ := hv
  have hx := B.exec
  have hb := B.bytes
  have hr := B.returns
  have hts := atoms_spec (ws := wsX5_isRow) B.pre
  have hown : s.vm.findClass RX5 = some m.cls := findClass_of_methodNamed B.named
  have hlocks := B.notSynchronized
  subst hsz
  have hD := hD0.self (sz := s.heap.size)
  generalize hAe : va_A [] s.heap.size = A at hD ⊢
  have hA : ∀ q : Nat, s.heap.size ≤ q → A q := fun q h => by rw [← hAe]; exact Or.inr h
  have hS : va_S A s.heap s.heap [] := va_S.rf
  have hl := lv_entry ([.int x0] : List Value) (n := 1) (Nat.le_of_ble_eq_true rfl)
  rw [lg_entry_eq]
  generalize (lg_sl ([.int x0] : List Value) ++ List.replicate (1 - (lg_sl ([.int x0] : List Value)).length) Slot.unset).toArray = ls at hl ⊢
  have hl : lv_has ls 1 [(0, .int x0)] := hl
  refine gn_Q (hret := fun Q => ∀ (pc : Nat) (ls : Array Slot) (H : Heap) (locs : List Loc) (r : Int32) , decode cX5_isRow pc = .ok (.ireturn, 1) → va_P (dC, dI) vwCl [] H → va_D A [] → va_S A s.heap H locs → (r = 0 ∨ r = 1) → post r → W p l e ({ frames := 0, cells := 0, slots := 0, locals := 0 } : Room) s m ([.int x0] : List Value).toArray below meth c H locs 0 0 Q (F0 m pc ls [.int r])) (fun Q hret => ?_) ?_
  rotate_left
  · intro pc ls H locs r hdg hP hD hS hz hpost
    exact W.zret (v := r) hx hb hr (gn_nz hz) (fun t ht hW => ⟨⟨r, (), rfl, hpost, by rw [ht]; exact hP, va_K.moved hW.alike hK, hD⟩, hS.F ht⟩) hS.2.2 hdg
  refine lv_iload_n hx hb dX5_isRow_0 rfl (lv_at hl 0 rfl) ?_
  have hq := hq (∀ (H : Heap) (locs : List Loc) (ls : Array Slot), va_P (dC, dI) vwCl [] H → va_D A [] → va_S A s.heap H locs → lv_has ls 1 [] → W p l e ({ frames := 0, cells := 0, slots := 0, locals := 0 } : Room) s m ([.int x0] : List Value).toArray below meth c H locs 0 0 Q (F0 m 14 ls [])) (by
    intro  hq H locs ls hP hD hS hl
    refine lv_iconst (v := 0) hx hb dX5_isRow_14 (by decide) ?_
    have hz := hq.1
    have hq := hq.2
    exact hret _ _ _ _ _ dX5_isRow_15 hP hD hS hz hq)
  refine lv_if_lt (tgt := 14) hx hb dX5_isRow_1 (by decide) (fun hc => ?_) (fun hc => ?_)
  · have hq := hq.1 hc
    exact hq _ _ _ hP hD hS (lv_sub hl [] rfl)
  · have hq := hq.2 hc
    refine lv_iload_n hx hb dX5_isRow_4 rfl (lv_at hl 0 rfl) ?_
    refine lv_bipush (v := 8) hx hb dX5_isRow_5 (by decide) ?_
    refine lv_icmp_ge (tgt := 14) hx hb dX5_isRow_7 (by decide) (fun hc => ?_) (fun hc => ?_)
    · have hq := hq.1 hc
      exact hq _ _ _ hP hD hS (lv_sub hl [] rfl)
    · have hq := hq.2 hc
      refine lv_iconst (v := 1) hx hb dX5_isRow_10 (by decide) ?_
      refine lv_goto (tgt := 15) hx hb dX5_isRow_11 (by decide) ?_
      have hz := hq.1
      have hq := hq.2
      exact hret _ _ _ _ _ dX5_isRow_15 hP hD hS hz hq
set_option maxHeartbeats 4000000 in
set_option maxRecDepth 100000 in
theorem c_X5_isCell (l : Launch) (dC : Nat → ClassId) (dI : Nat → Nat → Nat) (cI cC cS : ClassId) (sz : Nat) (x0 : Int32) {post : Int32 → Prop} (hq : wp_X5_isCell x0 post) : Met l yX5_isCell wsX5_isCell ({ frames := 0, cells := 0, slots := 0, locals := 0 } : Room) (gn_Pre (dC, dI) cI cC cS [.int x0] sz []) (va_Qi (fun (r : Int32) (u : Unit) => post r) (fun (u : Unit) t => va_P (dC, dI) vwCl [] t.heap ∧ va_K (dC, dI) vwCl (gn_tys cI cC cS) t ∧ va_D (va_A [] sz) []) (va_A [] sz)) 0 0 (va_A [] sz) := by
  unfold wp_X5_isCell at hq
  refine Met.ofW (cc := cX5_isCell) (maxL := 1) (ret := (some .boolean)) (by decide) rfl ?_
  intro p e s m args below meth c s₁ B hml hv
  obtain ⟨rfl, hsz, hP, hK, hN, hD0⟩ := hv
  have hx := B.exec
  have hb := B.bytes
  have hr := B.returns
  have hts := atoms_spec (ws := wsX5_isCell) B.pre
  have hown : s.vm.findClass RX5 = some m.cls := findClass_of_methodNamed B.named
  have hlocks := B.notSynchronized
  subst hsz
  have hD := hD0.self (sz := s.heap.size)
  generalize hAe : va_A [] s.heap.size = A at hD ⊢
  have hA : ∀ q : Nat, s.heap.size ≤ q → A q := fun q h => by rw [← hAe]; exact Or.inr h
  have hS : va_S A s.heap s.heap [] := va_S.rf
  have hl := lv_entry ([.int x0] : List Value) (n := 1) (Nat.le_of_ble_eq_true rfl)
  rw [lg_entry_eq]
  generalize (lg_sl ([.int x0] : List Value) ++ List.replicate (1 - (lg_sl ([.int x0] : List Value)).length) Slot.unset).toArray = ls at hl ⊢
  have hl : lv_has ls 1 [(0, .int x0)] := hl
  refine gn_Q (hret := fun Q => ∀ (pc : Nat) (ls : Array Slot) (H : Heap) (locs : List Loc) (r : Int32) , decode cX5_isCell pc = .ok (.ireturn, 1) → va_P (dC, dI) vwCl [] H → va_D A [] → va_S A s.heap H locs → (r = 0 ∨ r = 1) → post r → W p l e ({ frames := 0, cells := 0, slots := 0, locals := 0 } : Room) s m ([.int x0] : List Value).toArray below meth c H locs 0 0 Q (F0 m pc ls [.int r])) (fun Q hret => ?_) ?_
  rotate_left
  · intro pc ls H locs r hdg hP hD hS hz hpost
    exact W.zret (v := r) hx hb hr (gn_nz hz) (fun t ht hW => ⟨⟨r, (), rfl, hpost, by rw [ht]; exact hP, va_K.moved hW.alike hK, hD⟩, hS.F ht⟩) hS.2.2 hdg
  refine lv_iload_n hx hb dX5_isCell_0 rfl (lv_at hl 0 rfl) ?_
  have hq := hq (∀ (H : Heap) (locs : List Loc) (ls : Array Slot), va_P (dC, dI) vwCl [] H → va_D A [] → va_S A s.heap H locs → lv_has ls 1 [] → W p l e ({ frames := 0, cells := 0, slots := 0, locals := 0 } : Room) s m ([.int x0] : List Value).toArray below meth c H locs 0 0 Q (F0 m 14 ls [])) (by
    intro  hq H locs ls hP hD hS hl
    refine lv_iconst (v := 0) hx hb dX5_isCell_14 (by decide) ?_
    have hz := hq.1
    have hq := hq.2
    exact hret _ _ _ _ _ dX5_isCell_15 hP hD hS hz hq)
  refine lv_if_lt (tgt := 14) hx hb dX5_isCell_1 (by decide) (fun hc => ?_) (fun hc => ?_)
  · have hq := hq.1 hc
    exact hq _ _ _ hP hD hS (lv_sub hl [] rfl)
  · have hq := hq.2 hc
    refine lv_iload_n hx hb dX5_isCell_4 rfl (lv_at hl 0 rfl) ?_
    refine lv_bipush (v := 64) hx hb dX5_isCell_5 (by decide) ?_
    refine lv_icmp_ge (tgt := 14) hx hb dX5_isCell_7 (by decide) (fun hc => ?_) (fun hc => ?_)
    · have hq := hq.1 hc
      exact hq _ _ _ hP hD hS (lv_sub hl [] rfl)
    · have hq := hq.2 hc
      refine lv_iconst (v := 1) hx hb dX5_isCell_10 (by decide) ?_
      refine lv_goto (tgt := 15) hx hb dX5_isCell_11 (by decide) ?_
      have hz := hq.1
      have hq := hq.2
      exact hret _ _ _ _ _ dX5_isCell_15 hP hD hS hz hq
set_option maxHeartbeats 4000000 in
set_option maxRecDepth 100000 in
theorem c_X5_isError (l : Launch) (dC : Nat → ClassId) (dI : Nat → Nat → Nat) (cI cC cS : ClassId) (sz : Nat) (x0 : Int32) {post : Int32 → Prop} (hq : wp_X5_isError x0 post) : Met l yX5_isError wsX5_isError ({ frames := 0, cells := 0, slots := 0, locals := 0 } : Room) (gn_Pre (dC, dI) cI cC cS [.int x0] sz []) (va_Qi (fun (r : Int32) (u : Unit) => post r) (fun (u : Unit) t => va_P (dC, dI) vwCl [] t.heap ∧ va_K (dC, dI) vwCl (gn_tys cI cC cS) t ∧ va_D (va_A [] sz) []) (va_A [] sz)) 0 0 (va_A [] sz) := by
  unfold wp_X5_isError at hq
  refine Met.ofW (cc := cX5_isError) (maxL := 1) (ret := (some .boolean)) (by decide) rfl ?_
  intro p e s m args below meth c s₁ B hml hv
  obtain ⟨rfl, hsz, hP, hK, hN, hD0⟩ := hv
  have hx := B.exec
  have hb := B.bytes
  have hr := B.returns
  have hts := atoms_spec (ws := wsX5_isError) B.pre
  have hown : s.vm.findClass RX5 = some m.cls := findClass_of_methodNamed B.named
  have hlocks := B.notSynchronized
  subst hsz
  have hD := hD0.self (sz := s.heap.size)
  generalize hAe : va_A [] s.heap.size = A at hD ⊢
  have hA : ∀ q : Nat, s.heap.size ≤ q → A q := fun q h => by rw [← hAe]; exact Or.inr h
  have hS : va_S A s.heap s.heap [] := va_S.rf
  have hl := lv_entry ([.int x0] : List Value) (n := 1) (Nat.le_of_ble_eq_true rfl)
  rw [lg_entry_eq]
  generalize (lg_sl ([.int x0] : List Value) ++ List.replicate (1 - (lg_sl ([.int x0] : List Value)).length) Slot.unset).toArray = ls at hl ⊢
  have hl : lv_has ls 1 [(0, .int x0)] := hl
  refine gn_Q (hret := fun Q => ∀ (pc : Nat) (ls : Array Slot) (H : Heap) (locs : List Loc) (r : Int32) , decode cX5_isError pc = .ok (.ireturn, 1) → va_P (dC, dI) vwCl [] H → va_D A [] → va_S A s.heap H locs → (r = 0 ∨ r = 1) → post r → W p l e ({ frames := 0, cells := 0, slots := 0, locals := 0 } : Room) s m ([.int x0] : List Value).toArray below meth c H locs 0 0 Q (F0 m pc ls [.int r])) (fun Q hret => ?_) ?_
  rotate_left
  · intro pc ls H locs r hdg hP hD hS hz hpost
    exact W.zret (v := r) hx hb hr (gn_nz hz) (fun t ht hW => ⟨⟨r, (), rfl, hpost, by rw [ht]; exact hP, va_K.moved hW.alike hK, hD⟩, hS.F ht⟩) hS.2.2 hdg
  refine lv_iload_n hx hb dX5_isError_0 rfl (lv_at hl 0 rfl) ?_
  have hq := hq (∀ (H : Heap) (locs : List Loc) (ls : Array Slot), va_P (dC, dI) vwCl [] H → va_D A [] → va_S A s.heap H locs → lv_has ls 1 [] → W p l e ({ frames := 0, cells := 0, slots := 0, locals := 0 } : Room) s m ([.int x0] : List Value).toArray below meth c H locs 0 0 Q (F0 m 14 ls [])) (by
    intro  hq H locs ls hP hD hS hl
    refine lv_iconst (v := 0) hx hb dX5_isError_14 (by decide) ?_
    have hz := hq.1
    have hq := hq.2
    exact hret _ _ _ _ _ dX5_isError_15 hP hD hS hz hq)
  refine lv_if_ge (tgt := 14) hx hb dX5_isError_1 (by decide) (fun hc => ?_) (fun hc => ?_)
  · have hq := hq.1 hc
    exact hq _ _ _ hP hD hS (lv_sub hl [] rfl)
  · have hq := hq.2 hc
    refine lv_iload_n hx hb dX5_isError_4 rfl (lv_at hl 0 rfl) ?_
    refine lv_bipush (v := -6) hx hb dX5_isError_5 (by decide) ?_
    refine lv_icmp_eq (tgt := 14) hx hb dX5_isError_7 (by decide) (fun hc => ?_) (fun hc => ?_)
    · have hq := hq.1 hc
      exact hq _ _ _ hP hD hS (lv_sub hl [] rfl)
    · have hq := hq.2 hc
      refine lv_iconst (v := 1) hx hb dX5_isError_10 (by decide) ?_
      refine lv_goto (tgt := 15) hx hb dX5_isError_11 (by decide) ?_
      have hz := hq.1
      have hq := hq.2
      exact hret _ _ _ _ _ dX5_isError_15 hP hD hS hz hq
set_option maxHeartbeats 4000000 in
set_option maxRecDepth 100000 in
theorem c_X5_maskOfRow (l : Launch) (dC : Nat → ClassId) (dI : Nat → Nat → Nat) (cI cC cS : ClassId) (sz : Nat) (x0 : Int64) (x2 : Int32) {post : Int32 → Prop} (hq : wp_X5_maskOfRow x0 x2 post) : Met l yX5_maskOfRow wsX5_maskOfRow ({ frames := 0, cells := 0, slots := 0, locals := 0 } : Room) (gn_Pre (dC, dI) cI cC cS [.long x0, .int x2] sz []) (va_Qi (fun (r : Int32) (u : Unit) => post r) (fun (u : Unit) t => va_P (dC, dI) vwCl [] t.heap ∧ va_K (dC, dI) vwCl (gn_tys cI cC cS) t ∧ va_D (va_A [] sz) []) (va_A [] sz)) 0 0 (va_A [] sz) := by
  unfold wp_X5_maskOfRow at hq
  refine Met.ofW (cc := cX5_maskOfRow) (maxL := 3) (ret := (some .int)) (by decide) rfl ?_
  intro p e s m args below meth c s₁ B hml hv
  obtain ⟨rfl, hsz, hP, hK, hN, hD0⟩ := hv
  have hx := B.exec
  have hb := B.bytes
  have hr := B.returns
  have hts := atoms_spec (ws := wsX5_maskOfRow) B.pre
  have hown : s.vm.findClass RX5 = some m.cls := findClass_of_methodNamed B.named
  have hlocks := B.notSynchronized
  subst hsz
  have hD := hD0.self (sz := s.heap.size)
  generalize hAe : va_A [] s.heap.size = A at hD ⊢
  have hA : ∀ q : Nat, s.heap.size ≤ q → A q := fun q h => by rw [← hAe]; exact Or.inr h
  have hS : va_S A s.heap s.heap [] := va_S.rf
  have hl := lv_entry ([.long x0, .int x2] : List Value) (n := 3) (Nat.le_of_ble_eq_true rfl)
  rw [lg_entry_eq]
  generalize (lg_sl ([.long x0, .int x2] : List Value) ++ List.replicate (3 - (lg_sl ([.long x0, .int x2] : List Value)).length) Slot.unset).toArray = ls at hl ⊢
  have hl : lv_has ls 3 [(0, .long x0), (2, .int x2)] := hl
  refine gn_Q (hret := fun Q => ∀ (pc : Nat) (ls : Array Slot) (H : Heap) (locs : List Loc) (r : Int32) , decode cX5_maskOfRow pc = .ok (.ireturn, 1) → va_P (dC, dI) vwCl [] H → va_D A [] → va_S A s.heap H locs → post r → W p l e ({ frames := 0, cells := 0, slots := 0, locals := 0 } : Room) s m ([.long x0, .int x2] : List Value).toArray below meth c H locs 0 0 Q (F0 m pc ls [.int r])) (fun Q hret => ?_) ?_
  rotate_left
  · intro pc ls H locs r hdg hP hD hS hpost
    exact W.iret (v := r) hx hb hr (fun t ht hW => ⟨⟨r, (), rfl, hpost, by rw [ht]; exact hP, va_K.moved hW.alike hK, hD⟩, hS.F ht⟩) hS.2.2 hdg
  refine lv_lload_n hx hb dX5_maskOfRow_0 rfl (lv_at hl 0 rfl) ?_
  refine lv_bipush (v := 8) hx hb dX5_maskOfRow_1 (by decide) ?_
  refine lv_iload_n hx hb dX5_maskOfRow_3 rfl (lv_at hl 1 rfl) ?_
  refine lv_imul hx hb dX5_maskOfRow_4 ?_
  refine lv_lushr hx hb dX5_maskOfRow_5 rfl ?_
  refine lv_l2i hx hb dX5_maskOfRow_6 rfl ?_
  refine lv_sipush (v := 255) hx hb dX5_maskOfRow_7 (by decide) ?_
  refine lv_iand hx hb dX5_maskOfRow_10 ?_
  exact hret _ _ _ _ _ dX5_maskOfRow_11 hP hD hS hq
set_option maxHeartbeats 4000000 in
set_option maxRecDepth 100000 in
theorem c_X5_symmetriesAt (l : Launch) (dC : Nat → ClassId) (dI : Nat → Nat → Nat) (cI cC cS : ClassId) (sz : Nat) (x0 : Int64) (x2 : Int32) {post : Int32 → Prop} (hq : wp_X5_symmetriesAt x0 x2 post) : Met l yX5_symmetriesAt wsX5_symmetriesAt ({ frames := 1, cells := 0, slots := 0, locals := 22 } : Room) (gn_Pre (dC, dI) cI cC cS [.long x0, .int x2] sz []) (va_Qi (fun (r : Int32) (u : Unit) => post r) (fun (u : Unit) t => va_P (dC, dI) vwCl [] t.heap ∧ va_K (dC, dI) vwCl (gn_tys cI cC cS) t ∧ va_D (va_A [] sz) []) (va_A [] sz)) 0 0 (va_A [] sz) := by
  unfold wp_X5_symmetriesAt at hq
  refine Met.ofW (cc := cX5_symmetriesAt) (maxL := 9) (ret := (some .int)) (by decide) rfl ?_
  intro p e s m args below meth c s₁ B hml hv
  obtain ⟨rfl, hsz, hP, hK, hN, hD0⟩ := hv
  have hx := B.exec
  have hb := B.bytes
  have hr := B.returns
  have hts := atoms_spec (ws := wsX5_symmetriesAt) B.pre
  have hown : s.vm.findClass RX5 = some m.cls := findClass_of_methodNamed B.named
  have hlocks := B.notSynchronized
  subst hsz
  have hD := hD0.self (sz := s.heap.size)
  generalize hAe : va_A [] s.heap.size = A at hD ⊢
  have hA : ∀ q : Nat, s.heap.size ≤ q → A q := fun q h => by rw [← hAe]; exact Or.inr h
  have hS : va_S A s.heap s.heap [] := va_S.rf
  have hl := lv_entry ([.long x0, .int x2] : List Value) (n := 9) (Nat.le_of_ble_eq_true rfl)
  rw [lg_entry_eq]
  generalize (lg_sl ([.long x0, .int x2] : List Value) ++ List.replicate (9 - (lg_sl ([.long x0, .int x2] : List Value)).length) Slot.unset).toArray = ls at hl ⊢
  have hl : lv_has ls 9 [(0, .long x0), (2, .int x2)] := hl
  refine gn_Q (hret := fun Q => ∀ (pc : Nat) (ls : Array Slot) (H : Heap) (locs : List Loc) (r : Int32) , decode cX5_symmetriesAt pc = .ok (.ireturn, 1) → va_P (dC, dI) vwCl [] H → va_D A [] → va_S A s.heap H locs → post r → W p l e ({ frames := 1, cells := 0, slots := 0, locals := 22 } : Room) s m ([.long x0, .int x2] : List Value).toArray below meth c H locs 0 0 Q (F0 m pc ls [.int r])) (fun Q hret => ?_) ?_
  rotate_left
  · intro pc ls H locs r hdg hP hD hS hpost
    exact W.iret (v := r) hx hb hr (fun t ht hW => ⟨⟨r, (), rfl, hpost, by rw [ht]; exact hP, va_K.moved hW.alike hK, hD⟩, hS.F ht⟩) hS.2.2 hdg
  refine lv_iload_n hx hb dX5_symmetriesAt_0 rfl (lv_at hl 1 rfl) ?_
  refine lv_bipush (v := 8) hx hb dX5_symmetriesAt_1 (by decide) ?_
  refine lv_irem hx hb dX5_symmetriesAt_3 (by decide) ?_
  refine lv_topi (fun w3_1 ew3_1 => ?_)
  have hq := hq w3_1 ew3_1
  refine lv_istore_n (lv' := [(3, .int w3_1), (0, .long x0), (2, .int x2)]) hx hb dX5_symmetriesAt_4 rfl hl (by decide) rfl (fun ls hl => ?_)
  refine lv_iload_n hx hb dX5_symmetriesAt_5 rfl (lv_at hl 2 rfl) ?_
  refine lv_bipush (v := 8) hx hb dX5_symmetriesAt_6 (by decide) ?_
  refine lv_idiv hx hb dX5_symmetriesAt_8 (by decide) ?_
  refine lv_topi (fun w4_2 ew4_2 => ?_)
  have hq := hq w4_2 ew4_2
  refine lv_istore (lv' := [(4, .int w4_2), (3, .int w3_1), (0, .long x0), (2, .int x2)]) hx hb dX5_symmetriesAt_9 hl (by decide) rfl (fun ls hl => ?_)
  refine lv_bipush (v := 7) hx hb dX5_symmetriesAt_11 (by decide) ?_
  refine lv_iload_n hx hb dX5_symmetriesAt_13 rfl (lv_at hl 1 rfl) ?_
  refine lv_isub hx hb dX5_symmetriesAt_14 ?_
  refine lv_topi (fun w5_3 ew5_3 => ?_)
  have hq := hq w5_3 ew5_3
  refine lv_istore (lv' := [(5, .int w5_3), (4, .int w4_2), (3, .int w3_1), (0, .long x0), (2, .int x2)]) hx hb dX5_symmetriesAt_15 hl (by decide) rfl (fun ls hl => ?_)
  refine lv_bipush (v := 7) hx hb dX5_symmetriesAt_17 (by decide) ?_
  refine lv_iload hx hb dX5_symmetriesAt_19 (lv_at hl 1 rfl) ?_
  refine lv_isub hx hb dX5_symmetriesAt_21 ?_
  refine lv_topi (fun w6_4 ew6_4 => ?_)
  have hq := hq w6_4 ew6_4
  refine lv_istore (lv' := [(6, .int w6_4), (5, .int w5_3), (4, .int w4_2), (3, .int w3_1), (0, .long x0), (2, .int x2)]) hx hb dX5_symmetriesAt_22 hl (by decide) rfl (fun ls hl => ?_)
  refine lv_lload_n hx hb dX5_symmetriesAt_24 rfl (lv_at hl 4 rfl) ?_
  refine lv_iload_n hx hb dX5_symmetriesAt_25 rfl (lv_at hl 5 rfl) ?_
  have hPc := hP.sub (ws' := []) [] rfl
  have hDc := hD.sub (ws' := []) [] (by decide) rfl
  have hFc := va_free (wc := []) hD hS hA [] rfl
  refine va_calli (va_runS (As := [.long x0, .int x2]) (rest := []) ⟨hx, hb, hml, hown, hts⟩ (c_X5_hasCell l dC dI cI cC cS _ x0 x2 hq) (va_cwS 2 hts gX5_symmetriesAt_X5_hasCell rfl rfl rfl (by decide +kernel) ⟨Nat.le_of_ble_eq_true rfl, Nat.le_of_ble_eq_true rfl⟩) (gn_preS hPc hK hN hDc) rfl rfl hl.1 rfl (lv_room (Nat.le_of_ble_eq_true rfl)) dX5_symmetriesAt_26 ⟨Nat.zero_le _, Nat.zero_le _⟩) hS (fun q _ h => hFc q h) hFc (fun r_5 u t H1 locs ht hvm hq hB hz1 hk1 hS => ?_)
  obtain ⟨hP1, hK1, hD1⟩ := hB
  rw [ht] at hP1
  try dsimp only at hq
  obtain ⟨hP, hD⟩ := va_join (wr := []) (w1 := []) hP hD [] [] rfl rfl (by decide) (by decide) hk1 hFc hP1 hD1
  have hP : va_P (dC, dI) vwCl [] H1 := hP
  have hD : va_D A [] := hD
  generalize H1 = H at hP hS ⊢
  refine lv_istore (lv' := [(7, .int r_5), (6, .int w6_4), (5, .int w5_3), (4, .int w4_2), (3, .int w3_1), (0, .long x0), (2, .int x2)]) hx hb dX5_symmetriesAt_29 hl (by decide) rfl (fun ls hl => ?_)
  refine lv_iload hx hb dX5_symmetriesAt_31 (lv_at hl 0 rfl) ?_
  refine lv_lload_n hx hb dX5_symmetriesAt_33 rfl (lv_at hl 5 rfl) ?_
  refine lv_bipush (v := 8) hx hb dX5_symmetriesAt_34 (by decide) ?_
  refine lv_iload hx hb dX5_symmetriesAt_36 (lv_at hl 3 rfl) ?_
  refine lv_imul hx hb dX5_symmetriesAt_38 ?_
  refine lv_iload hx hb dX5_symmetriesAt_39 (lv_at hl 2 rfl) ?_
  refine lv_iadd hx hb dX5_symmetriesAt_41 ?_
  have hPc := hP.sub (ws' := []) [] rfl
  have hDc := hD.sub (ws' := []) [] (by decide) rfl
  have hFc := va_free (wc := []) hD hS hA [] rfl
  refine va_calli (va_runS (As := [.long x0, .int (((8 : Int32) * w4_2) + w5_3)]) (rest := [.int r_5]) ⟨hx, hb, hml, hown, hts⟩ (c_X5_hasCell l dC dI cI cC cS _ x0 (((8 : Int32) * w4_2) + w5_3) hq) (va_cwS 2 hts gX5_symmetriesAt_X5_hasCell rfl rfl rfl (by decide +kernel) ⟨Nat.le_of_ble_eq_true rfl, Nat.le_of_ble_eq_true rfl⟩) (gn_preS hPc hK hN hDc) rfl rfl hl.1 rfl (lv_room (Nat.le_of_ble_eq_true rfl)) dX5_symmetriesAt_42 ⟨Nat.zero_le _, Nat.zero_le _⟩) hS (fun q _ h => hFc q h) hFc (fun r_6 u t H1 locs ht hvm hq hB hz1 hk1 hS => ?_)
  obtain ⟨hP1, hK1, hD1⟩ := hB
  rw [ht] at hP1
  try dsimp only at hq
  obtain ⟨hP, hD⟩ := va_join (wr := []) (w1 := []) hP hD [] [] rfl rfl (by decide) (by decide) hk1 hFc hP1 hD1
  have hP : va_P (dC, dI) vwCl [] H1 := hP
  have hD : va_D A [] := hD
  generalize H1 = H at hP hS ⊢
  have hq := hq (fun (t_7 : Int32) => ∀ (H : Heap) (locs : List Loc) (ls : Array Slot), va_P (dC, dI) vwCl [] H → va_D A [] → va_S A s.heap H locs → lv_has ls 9 [(0, .long x0), (3, .int w3_1), (4, .int w4_2), (5, .int w5_3), (6, .int w6_4), (7, .int r_5)] → W p l e ({ frames := 1, cells := 0, slots := 0, locals := 22 } : Room) s m ([.long x0, .int x2] : List Value).toArray below meth c H locs 0 0 Q (F0 m 53 ls [.int t_7])) (by
    intro t_7 hq H locs ls hP hD hS hl
    refine lv_istore (lv' := [(8, .int t_7), (0, .long x0), (3, .int w3_1), (4, .int w4_2), (5, .int w5_3), (6, .int w6_4), (7, .int r_5)]) hx hb dX5_symmetriesAt_53 hl (by decide) rfl (fun ls hl => ?_)
    refine lv_iload hx hb dX5_symmetriesAt_55 (lv_at hl 0 rfl) ?_
    refine lv_iload hx hb dX5_symmetriesAt_57 (lv_at hl 6 rfl) ?_
    refine lv_lload_n hx hb dX5_symmetriesAt_59 rfl (lv_at hl 1 rfl) ?_
    refine lv_bipush (v := 8) hx hb dX5_symmetriesAt_60 (by decide) ?_
    refine lv_iload hx hb dX5_symmetriesAt_62 (lv_at hl 5 rfl) ?_
    refine lv_imul hx hb dX5_symmetriesAt_64 ?_
    refine lv_iload_n hx hb dX5_symmetriesAt_65 rfl (lv_at hl 2 rfl) ?_
    refine lv_iadd hx hb dX5_symmetriesAt_66 ?_
    have hPc := hP.sub (ws' := []) [] rfl
    have hDc := hD.sub (ws' := []) [] (by decide) rfl
    have hFc := va_free (wc := []) hD hS hA [] rfl
    refine va_calli (va_runS (As := [.long x0, .int (((8 : Int32) * w6_4) + w3_1)]) (rest := [.int r_5, .int t_7]) ⟨hx, hb, hml, hown, hts⟩ (c_X5_hasCell l dC dI cI cC cS _ x0 (((8 : Int32) * w6_4) + w3_1) hq) (va_cwS 2 hts gX5_symmetriesAt_X5_hasCell rfl rfl rfl (by decide +kernel) ⟨Nat.le_of_ble_eq_true rfl, Nat.le_of_ble_eq_true rfl⟩) (gn_preS hPc hK hN hDc) rfl rfl hl.1 rfl (lv_room (Nat.le_of_ble_eq_true rfl)) dX5_symmetriesAt_67 ⟨Nat.zero_le _, Nat.zero_le _⟩) hS (fun q _ h => hFc q h) hFc (fun r_8 u t H1 locs ht hvm hq hB hz1 hk1 hS => ?_)
    obtain ⟨hP1, hK1, hD1⟩ := hB
    rw [ht] at hP1
    try dsimp only at hq
    obtain ⟨hP, hD⟩ := va_join (wr := []) (w1 := []) hP hD [] [] rfl rfl (by decide) (by decide) hk1 hFc hP1 hD1
    have hP : va_P (dC, dI) vwCl [] H1 := hP
    have hD : va_D A [] := hD
    generalize H1 = H at hP hS ⊢
    have hq := hq (fun (t_9 : Int32) => ∀ (H : Heap) (locs : List Loc) (ls : Array Slot), va_P (dC, dI) vwCl [] H → va_D A [] → va_S A s.heap H locs → lv_has ls 9 [(0, .long x0), (3, .int w3_1), (4, .int w4_2), (5, .int w5_3), (6, .int w6_4), (7, .int r_5)] → W p l e ({ frames := 1, cells := 0, slots := 0, locals := 22 } : Room) s m ([.long x0, .int x2] : List Value).toArray below meth c H locs 0 0 Q (F0 m 78 ls [.int t_9, .int t_7])) (by
      intro t_9 hq H locs ls hP hD hS hl
      refine lv_ior hx hb dX5_symmetriesAt_78 ?_
      refine lv_topi (fun w8_10 ew8_10 => ?_)
      have hq := hq w8_10 ew8_10
      refine lv_istore (lv' := [(8, .int w8_10), (0, .long x0), (3, .int w3_1), (4, .int w4_2), (5, .int w5_3), (6, .int w6_4), (7, .int r_5)]) hx hb dX5_symmetriesAt_79 hl (by decide) rfl (fun ls hl => ?_)
      refine lv_iload hx hb dX5_symmetriesAt_81 (lv_at hl 0 rfl) ?_
      refine lv_iload hx hb dX5_symmetriesAt_83 (lv_at hl 6 rfl) ?_
      refine lv_lload_n hx hb dX5_symmetriesAt_85 rfl (lv_at hl 1 rfl) ?_
      refine lv_bipush (v := 8) hx hb dX5_symmetriesAt_86 (by decide) ?_
      refine lv_iload hx hb dX5_symmetriesAt_88 (lv_at hl 5 rfl) ?_
      refine lv_imul hx hb dX5_symmetriesAt_90 ?_
      refine lv_iload hx hb dX5_symmetriesAt_91 (lv_at hl 4 rfl) ?_
      refine lv_iadd hx hb dX5_symmetriesAt_93 ?_
      have hPc := hP.sub (ws' := []) [] rfl
      have hDc := hD.sub (ws' := []) [] (by decide) rfl
      have hFc := va_free (wc := []) hD hS hA [] rfl
      refine va_calli (va_runS (As := [.long x0, .int (((8 : Int32) * w6_4) + w5_3)]) (rest := [.int r_5, .int w8_10]) ⟨hx, hb, hml, hown, hts⟩ (c_X5_hasCell l dC dI cI cC cS _ x0 (((8 : Int32) * w6_4) + w5_3) hq) (va_cwS 2 hts gX5_symmetriesAt_X5_hasCell rfl rfl rfl (by decide +kernel) ⟨Nat.le_of_ble_eq_true rfl, Nat.le_of_ble_eq_true rfl⟩) (gn_preS hPc hK hN hDc) rfl rfl hl.1 rfl (lv_room (Nat.le_of_ble_eq_true rfl)) dX5_symmetriesAt_94 ⟨Nat.zero_le _, Nat.zero_le _⟩) hS (fun q _ h => hFc q h) hFc (fun r_11 u t H1 locs ht hvm hq hB hz1 hk1 hS => ?_)
      obtain ⟨hP1, hK1, hD1⟩ := hB
      rw [ht] at hP1
      try dsimp only at hq
      obtain ⟨hP, hD⟩ := va_join (wr := []) (w1 := []) hP hD [] [] rfl rfl (by decide) (by decide) hk1 hFc hP1 hD1
      have hP : va_P (dC, dI) vwCl [] H1 := hP
      have hD : va_D A [] := hD
      generalize H1 = H at hP hS ⊢
      have hq := hq (fun (t_12 : Int32) => ∀ (H : Heap) (locs : List Loc) (ls : Array Slot), va_P (dC, dI) vwCl [] H → va_D A [] → va_S A s.heap H locs → lv_has ls 9 [(0, .long x0), (3, .int w3_1), (4, .int w4_2), (7, .int r_5)] → W p l e ({ frames := 1, cells := 0, slots := 0, locals := 22 } : Room) s m ([.long x0, .int x2] : List Value).toArray below meth c H locs 0 0 Q (F0 m 105 ls [.int t_12, .int w8_10])) (by
        intro t_12 hq H locs ls hP hD hS hl
        refine lv_ior hx hb dX5_symmetriesAt_105 ?_
        refine lv_topi (fun w8_13 ew8_13 => ?_)
        have hq := hq w8_13 ew8_13
        refine lv_istore (lv' := [(8, .int w8_13), (0, .long x0), (3, .int w3_1), (4, .int w4_2), (7, .int r_5)]) hx hb dX5_symmetriesAt_106 hl (by decide) rfl (fun ls hl => ?_)
        refine lv_iload hx hb dX5_symmetriesAt_108 (lv_at hl 0 rfl) ?_
        refine lv_iload hx hb dX5_symmetriesAt_110 (lv_at hl 4 rfl) ?_
        refine lv_lload_n hx hb dX5_symmetriesAt_112 rfl (lv_at hl 1 rfl) ?_
        refine lv_bipush (v := 8) hx hb dX5_symmetriesAt_113 (by decide) ?_
        refine lv_iload_n hx hb dX5_symmetriesAt_115 rfl (lv_at hl 2 rfl) ?_
        refine lv_imul hx hb dX5_symmetriesAt_116 ?_
        refine lv_iload hx hb dX5_symmetriesAt_117 (lv_at hl 3 rfl) ?_
        refine lv_iadd hx hb dX5_symmetriesAt_119 ?_
        have hPc := hP.sub (ws' := []) [] rfl
        have hDc := hD.sub (ws' := []) [] (by decide) rfl
        have hFc := va_free (wc := []) hD hS hA [] rfl
        refine va_calli (va_runS (As := [.long x0, .int (((8 : Int32) * w3_1) + w4_2)]) (rest := [.int r_5, .int w8_13]) ⟨hx, hb, hml, hown, hts⟩ (c_X5_hasCell l dC dI cI cC cS _ x0 (((8 : Int32) * w3_1) + w4_2) hq) (va_cwS 2 hts gX5_symmetriesAt_X5_hasCell rfl rfl rfl (by decide +kernel) ⟨Nat.le_of_ble_eq_true rfl, Nat.le_of_ble_eq_true rfl⟩) (gn_preS hPc hK hN hDc) rfl rfl hl.1 rfl (lv_room (Nat.le_of_ble_eq_true rfl)) dX5_symmetriesAt_120 ⟨Nat.zero_le _, Nat.zero_le _⟩) hS (fun q _ h => hFc q h) hFc (fun r_14 u t H1 locs ht hvm hq hB hz1 hk1 hS => ?_)
        obtain ⟨hP1, hK1, hD1⟩ := hB
        rw [ht] at hP1
        try dsimp only at hq
        obtain ⟨hP, hD⟩ := va_join (wr := []) (w1 := []) hP hD [] [] rfl rfl (by decide) (by decide) hk1 hFc hP1 hD1
        have hP : va_P (dC, dI) vwCl [] H1 := hP
        have hD : va_D A [] := hD
        generalize H1 = H at hP hS ⊢
        have hq := hq (fun (t_15 : Int32) => ∀ (H : Heap) (locs : List Loc) (ls : Array Slot), va_P (dC, dI) vwCl [] H → va_D A [] → va_S A s.heap H locs → lv_has ls 9 [] → W p l e ({ frames := 1, cells := 0, slots := 0, locals := 22 } : Room) s m ([.long x0, .int x2] : List Value).toArray below meth c H locs 0 0 Q (F0 m 132 ls [.int t_15, .int w8_13])) (by
          intro t_15 hq H locs ls hP hD hS hl
          refine lv_ior hx hb dX5_symmetriesAt_132 ?_
          exact hret _ _ _ _ _ dX5_symmetriesAt_133 hP hD hS hq)
        refine lv_icmp_ne (tgt := 131) hx hb dX5_symmetriesAt_123 (by decide) (fun hc => ?_) (fun hc => ?_)
        · have hq := hq.1 hc
          refine lv_iconst (v := 0) hx hb dX5_symmetriesAt_131 (by decide) ?_
          exact hq _ _ _ hP hD hS (lv_sub hl [] rfl)
        · have hq := hq.2 hc
          refine lv_bipush (v := 8) hx hb dX5_symmetriesAt_126 (by decide) ?_
          refine lv_goto (tgt := 132) hx hb dX5_symmetriesAt_128 (by decide) ?_
          exact hq _ _ _ hP hD hS (lv_sub hl [] rfl))
      refine lv_icmp_ne (tgt := 104) hx hb dX5_symmetriesAt_97 (by decide) (fun hc => ?_) (fun hc => ?_)
      · have hq := hq.1 hc
        refine lv_iconst (v := 0) hx hb dX5_symmetriesAt_104 (by decide) ?_
        exact hq _ _ _ hP hD hS (lv_sub hl [1, 2, 3, 6] rfl)
      · have hq := hq.2 hc
        refine lv_iconst (v := 4) hx hb dX5_symmetriesAt_100 (by decide) ?_
        refine lv_goto (tgt := 105) hx hb dX5_symmetriesAt_101 (by decide) ?_
        exact hq _ _ _ hP hD hS (lv_sub hl [1, 2, 3, 6] rfl))
    refine lv_icmp_ne (tgt := 77) hx hb dX5_symmetriesAt_70 (by decide) (fun hc => ?_) (fun hc => ?_)
    · have hq := hq.1 hc
      refine lv_iconst (v := 0) hx hb dX5_symmetriesAt_77 (by decide) ?_
      exact hq _ _ _ hP hD hS (lv_sub hl [1, 2, 3, 4, 5, 6] rfl)
    · have hq := hq.2 hc
      refine lv_iconst (v := 2) hx hb dX5_symmetriesAt_73 (by decide) ?_
      refine lv_goto (tgt := 78) hx hb dX5_symmetriesAt_74 (by decide) ?_
      exact hq _ _ _ hP hD hS (lv_sub hl [1, 2, 3, 4, 5, 6] rfl))
  refine lv_icmp_ne (tgt := 52) hx hb dX5_symmetriesAt_45 (by decide) (fun hc => ?_) (fun hc => ?_)
  · have hq := hq.1 hc
    refine lv_iconst (v := 0) hx hb dX5_symmetriesAt_52 (by decide) ?_
    exact hq _ _ _ hP hD hS (lv_sub hl [5, 4, 3, 2, 1, 0] rfl)
  · have hq := hq.2 hc
    refine lv_iconst (v := 1) hx hb dX5_symmetriesAt_48 (by decide) ?_
    refine lv_goto (tgt := 53) hx hb dX5_symmetriesAt_49 (by decide) ?_
    exact hq _ _ _ hP hD hS (lv_sub hl [5, 4, 3, 2, 1, 0] rfl)
set_option maxRecDepth 20000 in
theorem kwX0_uppermostCells_st_X5_cellOf : Cond.static yX5_cellOf ∈ wsX0_uppermostCells := by decide +kernel
set_option maxRecDepth 20000 in
theorem kwX0_uppermostCells_ini_X5 : Cond.initialized RX5 ∈ wsX0_uppermostCells := by decide +kernel
set_option maxHeartbeats 4000000 in
set_option maxRecDepth 100000 in
theorem c_X0_uppermostCells (l : Launch) (dC : Nat → ClassId) (dI : Nat → Nat → Nat) (cI cC cS : ClassId) (aF : Nat) (aK : Nat) (sz : Nat) (made : Int32) (mac : Int32) (ks : Nat → Int32) (x1 : Int32) (x2 : Int32) (x3 : Int32) {post : Int64 → Prop} (hq : wp_X0_uppermostCells made mac ks x1 x2 x3 post) : Met l yX0_uppermostCells wsX0_uppermostCells ({ frames := 2, cells := 0, slots := 0, locals := 58 } : Room) (gn_Pre (dC, dI) cI cC cS [.ref aF, .int x1, .int x2, .int x3] sz [(aF, .inr (0, [.ref aK, .int made, .int mac])), (aK, .inl (cI, 6, .inl ks))]) (va_Ql (fun (r : Int64) (u : Unit) => post r) (fun (u : Unit) t => va_P (dC, dI) vwCl [(aF, .inr (0, [.ref aK, .int made, .int mac])), (aK, .inl (cI, 6, .inl ks))] t.heap ∧ va_K (dC, dI) vwCl (gn_tys cI cC cS) t ∧ va_D (va_A [(aF, .inr (0, [.ref aK, .int made, .int mac])), (aK, .inl (cI, 6, .inl ks))] sz) [(aF, .inr (0, [.ref aK, .int made, .int mac])), (aK, .inl (cI, 6, .inl ks))]) (va_A [(aF, .inr (0, [.ref aK, .int made, .int mac])), (aK, .inl (cI, 6, .inl ks))] sz)) 0 0 (va_A [(aF, .inr (0, [.ref aK, .int made, .int mac])), (aK, .inl (cI, 6, .inl ks))] sz) := by
  unfold wp_X0_uppermostCells at hq
  refine Met.ofW (cc := cX0_uppermostCells) (maxL := 7) (ret := (some .long)) (by decide) rfl ?_
  intro p e s m args below meth c s₁ B hml hv
  obtain ⟨rfl, hsz, hP, hK, hN, hD0⟩ := hv
  have hx := B.exec
  have hb := B.bytes
  have hr := B.returns
  have hts := atoms_spec (ws := wsX0_uppermostCells) B.pre
  have hown : s.vm.findClass RX0 = some m.cls := findClass_of_methodNamed B.named
  have hlocks := B.notSynchronized
  subst hsz
  have hD := hD0.self (sz := s.heap.size)
  generalize hAe : va_A [(aF, .inr (0, [.ref aK, .int made, .int mac])), (aK, .inl (cI, 6, .inl ks))] s.heap.size = A at hD ⊢
  have hA : ∀ q : Nat, s.heap.size ≤ q → A q := fun q h => by rw [← hAe]; exact Or.inr h
  have hS : va_S A s.heap s.heap [] := va_S.rf
  have hl := lv_entry ([.ref aF, .int x1, .int x2, .int x3] : List Value) (n := 7) (Nat.le_of_ble_eq_true rfl)
  rw [lg_entry_eq]
  generalize (lg_sl ([.ref aF, .int x1, .int x2, .int x3] : List Value) ++ List.replicate (7 - (lg_sl ([.ref aF, .int x1, .int x2, .int x3] : List Value)).length) Slot.unset).toArray = ls at hl ⊢
  have hl : lv_has ls 7 [(0, .ref aF), (1, .int x1), (2, .int x2), (3, .int x3)] := hl
  refine gn_Q (hret := fun Q => ∀ (pc : Nat) (ls : Array Slot) (H : Heap) (locs : List Loc) (r : Int64) , decode cX0_uppermostCells pc = .ok (.lreturn, 1) → va_P (dC, dI) vwCl [(aF, .inr (0, [.ref aK, .int made, .int mac])), (aK, .inl (cI, 6, .inl ks))] H → va_D A [(aF, .inr (0, [.ref aK, .int made, .int mac])), (aK, .inl (cI, 6, .inl ks))] → va_S A s.heap H locs → post r → W p l e ({ frames := 2, cells := 0, slots := 0, locals := 58 } : Room) s m ([.ref aF, .int x1, .int x2, .int x3] : List Value).toArray below meth c H locs 0 0 Q (F0 m pc ls [.long r])) (fun Q hret => ?_) ?_
  rotate_left
  · intro pc ls H locs r hdg hP hD hS hpost
    exact W.lret (v := r) hx hb hr (fun t ht hW => ⟨⟨r, (), rfl, hpost, by rw [ht]; exact hP, va_K.moved hW.alike hK, hD⟩, hS.F ht⟩) hS.2.2 hdg
  refine lv_lconst (v := 0) hx hb dX0_uppermostCells_0 (by decide) ?_
  refine lv_lstore (lv' := [(4, .long (0 : Int64)), (0, .ref aF), (1, .int x1), (2, .int x2), (3, .int x3)]) hx hb dX0_uppermostCells_1 hl (by decide) rfl (fun ls hl => ?_)
  refine lv_iconst (v := 0) hx hb dX0_uppermostCells_3 (by decide) ?_
  refine lv_istore (lv' := [(6, .int (0 : Int32)), (4, .long (0 : Int64)), (0, .ref aF), (1, .int x1), (2, .int x2), (3, .int x3)]) hx hb dX0_uppermostCells_4 hl (by decide) rfl (fun ls hl => ?_)
  have hq := hq (fun (v4_1 : Int64) (v6_2 : Int32) => ∀ (H : Heap) (locs : List Loc) (ls : Array Slot), va_P (dC, dI) vwCl [(aF, .inr (0, [.ref aK, .int made, .int mac])), (aK, .inl (cI, 6, .inl ks))] H → va_D A [(aF, .inr (0, [.ref aK, .int made, .int mac])), (aK, .inl (cI, 6, .inl ks))] → va_S A s.heap H locs → lv_has ls 7 [(0, .ref aF), (1, .int x1), (2, .int x2), (3, .int x3), (4, .long v4_1), (6, .int v6_2)] → W p l e ({ frames := 2, cells := 0, slots := 0, locals := 58 } : Room) s m ([.ref aF, .int x1, .int x2, .int x3] : List Value).toArray below meth c H locs 0 0 Q (F0 m 6 ls [])) (by
    intro v4_1 v6_2 hq H locs ls hP hD hS hl
    refine lv_iload hx hb dX0_uppermostCells_6 (lv_at hl 5 rfl) ?_
    refine lv_iload_n hx hb dX0_uppermostCells_8 rfl (lv_at hl 3 rfl) ?_
    refine lv_icmp_ge (tgt := 36) hx hb dX0_uppermostCells_9 (by decide) (fun hc => ?_) (fun hc => ?_)
    · have hq := hq.1 hc
      refine lv_lload hx hb dX0_uppermostCells_36 (lv_at hl 4 rfl) ?_
      exact hret _ _ _ _ _ dX0_uppermostCells_38 hP hD hS hq
    · have hq := hq.2 hc
      refine lv_lload hx hb dX0_uppermostCells_12 (lv_at hl 4 rfl) ?_
      refine lv_lconst (v := 1) hx hb dX0_uppermostCells_14 (by decide) ?_
      refine lv_aload_n hx hb dX0_uppermostCells_15 rfl (lv_at hl 0 rfl) ?_
      refine lv_iload_n hx hb dX0_uppermostCells_16 rfl (lv_at hl 1 rfl) ?_
      refine lv_iload_n hx hb dX0_uppermostCells_17 rfl (lv_at hl 2 rfl) ?_
      refine lv_iload hx hb dX0_uppermostCells_18 (lv_at hl 5 rfl) ?_
      have hPc := hP.sub (ws' := [(aF, .inr (0, [.ref aK, .int made, .int mac])), (aK, .inl (cI, 6, .inl ks))]) [0, 1] rfl
      have hDc := hD.sub (ws' := [(aF, .inr (0, [.ref aK, .int made, .int mac])), (aK, .inl (cI, 6, .inl ks))]) [0, 1] (by decide) rfl
      have hFc := va_free (wc := [(aF, .inr (0, [.ref aK, .int made, .int mac])), (aK, .inl (cI, 6, .inl ks))]) hD hS hA [0, 1] rfl
      refine va_calli (va_runV (As := [.int x1, .int x2, .int v6_2]) (rest := [.long (1 : Int64), .long v4_1]) ⟨hx, hb, hml, hown, hts⟩ (c_X0_upperSide l dC dI cI cC cS aF aK _ made mac ks x1 x2 v6_2 hq) (cwV 3 hts gX0_uppermostCells_X0_upperSide rfl rfl rfl (by decide +kernel) ⟨Nat.le_of_ble_eq_true rfl, Nat.le_of_ble_eq_true rfl⟩) (gn_preV hPc hK hN hDc (ci := 0) (q0 := 0) rfl rfl) rfl rfl hl.1 rfl (lv_room (Nat.le_of_ble_eq_true rfl)) dX0_uppermostCells_20 ⟨Nat.zero_le _, Nat.zero_le _⟩) hS (fun q _ h => hFc q h) hFc (fun r_3 u t H1 locs ht hvm hq hB hz1 hk1 hS => ?_)
      obtain ⟨hP1, hK1, hD1⟩ := hB
      rw [ht] at hP1
      try dsimp only at hq
      obtain ⟨hP, hD⟩ := va_join (wr := []) (w1 := [(aF, .inr (0, [.ref aK, .int made, .int mac])), (aK, .inl (cI, 6, .inl ks))]) hP hD [0, 1] [] rfl rfl (by decide) (by decide) hk1 hFc hP1 hD1
      have hP := hP.sub (ws' := [(aF, .inr (0, [.ref aK, .int made, .int mac])), (aK, .inl (cI, 6, .inl ks))]) [0, 1] rfl
      have hD := hD.sub (ws' := [(aF, .inr (0, [.ref aK, .int made, .int mac])), (aK, .inl (cI, 6, .inl ks))]) [0, 1] (by decide) rfl
      generalize H1 = H at hP hS ⊢
      have hPc := hP.sub (ws' := []) [] rfl
      have hDc := hD.sub (ws' := []) [] (by decide) rfl
      have hFc := va_free (wc := []) hD hS hA [] rfl
      refine va_calli (va_runSN (As := [.int r_3]) (rest := [.long (1 : Int64), .long v4_1]) ⟨hx, hb, hml, hown, hts⟩ (c_X5_cellOf l dC dI cI cC cS _ r_3 hq) ⟨va_cnB (host := RX5) 1 hts gX0_uppermostCells_X5_cellOf_n71 rfl rfl rfl (gn_nw_X0_71 hN) (hts _ kwX0_uppermostCells_ini_X5) (by decide +kernel) ⟨Nat.le_of_ble_eq_true rfl, Nat.le_of_ble_eq_true rfl⟩, (hts _ kwX0_uppermostCells_st_X5_cellOf), trivial⟩ (gn_preS hPc hK hN hDc) rfl rfl hl.1 rfl (lv_room (Nat.le_of_ble_eq_true rfl)) dX0_uppermostCells_23 ⟨Nat.zero_le _, Nat.zero_le _⟩) hS (fun q _ h => hFc q h) hFc (fun r_4 u t H1 locs ht hvm hq hB hz1 hk1 hS => ?_)
      obtain ⟨hP1, hK1, hD1⟩ := hB
      rw [ht] at hP1
      try dsimp only at hq
      obtain ⟨hP, hD⟩ := va_join (wr := [(aF, .inr (0, [.ref aK, .int made, .int mac])), (aK, .inl (cI, 6, .inl ks))]) (w1 := []) hP hD [] [0, 1] rfl rfl (by decide) (by decide) hk1 hFc hP1 hD1
      have hP := hP.sub (ws' := [(aF, .inr (0, [.ref aK, .int made, .int mac])), (aK, .inl (cI, 6, .inl ks))]) [0, 1] rfl
      have hD := hD.sub (ws' := [(aF, .inr (0, [.ref aK, .int made, .int mac])), (aK, .inl (cI, 6, .inl ks))]) [0, 1] (by decide) rfl
      generalize H1 = H at hP hS ⊢
      refine lv_lshl hx hb dX0_uppermostCells_26 rfl ?_
      refine lv_lor hx hb dX0_uppermostCells_27 ?_
      refine lv_topl (fun w4_5 ew4_5 => ?_)
      have hq := hq w4_5 ew4_5
      refine lv_lstore (lv' := [(4, .long w4_5), (0, .ref aF), (1, .int x1), (2, .int x2), (3, .int x3), (6, .int v6_2)]) hx hb dX0_uppermostCells_28 hl (by decide) rfl (fun ls hl => ?_)
      refine lv_iinc (v := (v6_2 + (1 : Int32))) (lv' := [(6, .int (v6_2 + (1 : Int32))), (4, .long w4_5), (0, .ref aF), (1, .int x1), (2, .int x2), (3, .int x3)]) hx hb dX0_uppermostCells_30 hl (k := 5) rfl rfl (by decide) rfl (fun ls hl => ?_)
      refine lv_goto (tgt := 6) hx hb dX0_uppermostCells_33 (by decide) ?_
      exact hq _ _ _ hP hD hS (lv_sub hl [2, 3, 4, 5, 1, 0] rfl))
  exact hq _ _ _ hP hD hS (lv_sub hl [2, 3, 4, 5, 1, 0] rfl)
set_option maxHeartbeats 4000000 in
set_option maxRecDepth 100000 in
theorem c_X0_punchesFor (l : Launch) (dC : Nat → ClassId) (dI : Nat → Nat → Nat) (cI cC cS : ClassId) (aF : Nat) (aK : Nat) (sz : Nat) (made : Int32) (mac : Int32) (ks : Nat → Int32) (x1 : Int64) {post : Int32 → Prop} (hq : wp_X0_punchesFor made mac ks x1 post) : Met l yX0_punchesFor wsX0_punchesFor ({ frames := 3, cells := 0, slots := 0, locals := 84 } : Room) (gn_Pre (dC, dI) cI cC cS [.ref aF, .long x1] sz [(aF, .inr (0, [.ref aK, .int made, .int mac])), (aK, .inl (cI, 6, .inl ks))]) (va_Qi (fun (r : Int32) (u : Unit) => post r) (fun (u : Unit) t => va_P (dC, dI) vwCl [(aF, .inr (0, [.ref aK, .int made, .int mac])), (aK, .inl (cI, 6, .inl ks))] t.heap ∧ va_K (dC, dI) vwCl (gn_tys cI cC cS) t ∧ va_D (va_A [(aF, .inr (0, [.ref aK, .int made, .int mac])), (aK, .inl (cI, 6, .inl ks))] sz) [(aF, .inr (0, [.ref aK, .int made, .int mac])), (aK, .inl (cI, 6, .inl ks))]) (va_A [(aF, .inr (0, [.ref aK, .int made, .int mac])), (aK, .inl (cI, 6, .inl ks))] sz)) 0 0 (va_A [(aF, .inr (0, [.ref aK, .int made, .int mac])), (aK, .inl (cI, 6, .inl ks))] sz) := by
  unfold wp_X0_punchesFor at hq
  refine Met.ofW (cc := cX0_punchesFor) (maxL := 12) (ret := (some .int)) (by decide) rfl ?_
  intro p e s m args below meth c s₁ B hml hv
  obtain ⟨rfl, hsz, hP, hK, hN, hD0⟩ := hv
  have hx := B.exec
  have hb := B.bytes
  have hr := B.returns
  have hts := atoms_spec (ws := wsX0_punchesFor) B.pre
  have hown : s.vm.findClass RX0 = some m.cls := findClass_of_methodNamed B.named
  have hlocks := B.notSynchronized
  subst hsz
  have hD := hD0.self (sz := s.heap.size)
  generalize hAe : va_A [(aF, .inr (0, [.ref aK, .int made, .int mac])), (aK, .inl (cI, 6, .inl ks))] s.heap.size = A at hD ⊢
  have hA : ∀ q : Nat, s.heap.size ≤ q → A q := fun q h => by rw [← hAe]; exact Or.inr h
  have hS : va_S A s.heap s.heap [] := va_S.rf
  have hl := lv_entry ([.ref aF, .long x1] : List Value) (n := 12) (Nat.le_of_ble_eq_true rfl)
  rw [lg_entry_eq]
  generalize (lg_sl ([.ref aF, .long x1] : List Value) ++ List.replicate (12 - (lg_sl ([.ref aF, .long x1] : List Value)).length) Slot.unset).toArray = ls at hl ⊢
  have hl : lv_has ls 12 [(0, .ref aF), (1, .long x1)] := hl
  refine gn_Q (hret := fun Q => ∀ (pc : Nat) (ls : Array Slot) (H : Heap) (locs : List Loc) (r : Int32) , decode cX0_punchesFor pc = .ok (.ireturn, 1) → va_P (dC, dI) vwCl [(aF, .inr (0, [.ref aK, .int made, .int mac])), (aK, .inl (cI, 6, .inl ks))] H → va_D A [(aF, .inr (0, [.ref aK, .int made, .int mac])), (aK, .inl (cI, 6, .inl ks))] → va_S A s.heap H locs → post r → W p l e ({ frames := 3, cells := 0, slots := 0, locals := 84 } : Room) s m ([.ref aF, .long x1] : List Value).toArray below meth c H locs 0 0 Q (F0 m pc ls [.int r])) (fun Q hret => ?_) ?_
  rotate_left
  · intro pc ls H locs r hdg hP hD hS hpost
    exact W.iret (v := r) hx hb hr (fun t ht hW => ⟨⟨r, (), rfl, hpost, by rw [ht]; exact hP, va_K.moved hW.alike hK, hD⟩, hS.F ht⟩) hS.2.2 hdg
  refine lv_aload_n hx hb dX0_punchesFor_0 rfl (lv_at hl 0 rfl) ?_
  have hPc := hP.sub (ws' := [(aF, .inr (0, [.ref aK, .int made, .int mac]))]) [0] rfl
  have hDc := hD.sub (ws' := [(aF, .inr (0, [.ref aK, .int made, .int mac]))]) [0] (by decide) rfl
  have hFc := va_free (wc := [(aF, .inr (0, [.ref aK, .int made, .int mac]))]) hD hS hA [0] rfl
  refine va_calli (va_runV (As := []) (rest := []) ⟨hx, hb, hml, hown, hts⟩ (c_X0_columns l dC dI cI cC cS aF aK _ made mac hq) (cwV 0 hts gX0_punchesFor_X0_columns rfl rfl rfl (by decide +kernel) ⟨Nat.le_of_ble_eq_true rfl, Nat.le_of_ble_eq_true rfl⟩) (gn_preV hPc hK hN hDc (ci := 0) (q0 := 0) rfl rfl) rfl rfl hl.1 rfl (lv_room (Nat.le_of_ble_eq_true rfl)) dX0_punchesFor_1 ⟨Nat.zero_le _, Nat.zero_le _⟩) hS (fun q _ h => hFc q h) hFc (fun r_1 u t H1 locs ht hvm hq hB hz1 hk1 hS => ?_)
  obtain ⟨hP1, hK1, hD1⟩ := hB
  rw [ht] at hP1
  try dsimp only at hq
  obtain ⟨hP, hD⟩ := va_join (wr := [(aK, .inl (cI, 6, .inl ks))]) (w1 := [(aF, .inr (0, [.ref aK, .int made, .int mac]))]) hP hD [0] [1] rfl rfl (by decide) (by decide) hk1 hFc hP1 hD1
  have hP := hP.sub (ws' := [(aF, .inr (0, [.ref aK, .int made, .int mac])), (aK, .inl (cI, 6, .inl ks))]) [1, 0] rfl
  have hD := hD.sub (ws' := [(aF, .inr (0, [.ref aK, .int made, .int mac])), (aK, .inl (cI, 6, .inl ks))]) [1, 0] (by decide) rfl
  generalize H1 = H at hP hS ⊢
  refine lv_istore_n (lv' := [(3, .int r_1), (0, .ref aF), (1, .long x1)]) hx hb dX0_punchesFor_4 rfl hl (by decide) rfl (fun ls hl => ?_)
  refine lv_aload_n hx hb dX0_punchesFor_5 rfl (lv_at hl 1 rfl) ?_
  have hPc := hP.sub (ws' := [(aF, .inr (0, [.ref aK, .int made, .int mac]))]) [0] rfl
  have hDc := hD.sub (ws' := [(aF, .inr (0, [.ref aK, .int made, .int mac]))]) [0] (by decide) rfl
  have hFc := va_free (wc := [(aF, .inr (0, [.ref aK, .int made, .int mac]))]) hD hS hA [0] rfl
  refine va_calli (va_runV (As := []) (rest := []) ⟨hx, hb, hml, hown, hts⟩ (c_X0_rows l dC dI cI cC cS aF aK _ made mac hq) (cwV 0 hts gX0_punchesFor_X0_rows rfl rfl rfl (by decide +kernel) ⟨Nat.le_of_ble_eq_true rfl, Nat.le_of_ble_eq_true rfl⟩) (gn_preV hPc hK hN hDc (ci := 0) (q0 := 0) rfl rfl) rfl rfl hl.1 rfl (lv_room (Nat.le_of_ble_eq_true rfl)) dX0_punchesFor_6 ⟨Nat.zero_le _, Nat.zero_le _⟩) hS (fun q _ h => hFc q h) hFc (fun r_2 u t H1 locs ht hvm hq hB hz1 hk1 hS => ?_)
  obtain ⟨hP1, hK1, hD1⟩ := hB
  rw [ht] at hP1
  try dsimp only at hq
  obtain ⟨hP, hD⟩ := va_join (wr := [(aK, .inl (cI, 6, .inl ks))]) (w1 := [(aF, .inr (0, [.ref aK, .int made, .int mac]))]) hP hD [0] [1] rfl rfl (by decide) (by decide) hk1 hFc hP1 hD1
  have hP := hP.sub (ws' := [(aF, .inr (0, [.ref aK, .int made, .int mac])), (aK, .inl (cI, 6, .inl ks))]) [1, 0] rfl
  have hD := hD.sub (ws' := [(aF, .inr (0, [.ref aK, .int made, .int mac])), (aK, .inl (cI, 6, .inl ks))]) [1, 0] (by decide) rfl
  generalize H1 = H at hP hS ⊢
  refine lv_istore (lv' := [(4, .int r_2), (3, .int r_1), (0, .ref aF), (1, .long x1)]) hx hb dX0_punchesFor_9 hl (by decide) rfl (fun ls hl => ?_)
  refine lv_iconst (v := 0) hx hb dX0_punchesFor_11 (by decide) ?_
  refine lv_istore (lv' := [(5, .int (0 : Int32)), (4, .int r_2), (3, .int r_1), (0, .ref aF), (1, .long x1)]) hx hb dX0_punchesFor_12 hl (by decide) rfl (fun ls hl => ?_)
  refine lv_iconst (v := 0) hx hb dX0_punchesFor_14 (by decide) ?_
  refine lv_istore (lv' := [(6, .int (0 : Int32)), (5, .int (0 : Int32)), (4, .int r_2), (3, .int r_1), (0, .ref aF), (1, .long x1)]) hx hb dX0_punchesFor_15 hl (by decide) rfl (fun ls hl => ?_)
  have hq := hq (fun (v5_3 : Int32) (v6_4 : Int32) => ∀ (H : Heap) (locs : List Loc) (ls : Array Slot), va_P (dC, dI) vwCl [(aF, .inr (0, [.ref aK, .int made, .int mac])), (aK, .inl (cI, 6, .inl ks))] H → va_D A [(aF, .inr (0, [.ref aK, .int made, .int mac])), (aK, .inl (cI, 6, .inl ks))] → va_S A s.heap H locs → lv_has ls 12 [(0, .ref aF), (1, .long x1), (3, .int r_1), (4, .int r_2), (5, .int v5_3), (6, .int v6_4)] → W p l e ({ frames := 3, cells := 0, slots := 0, locals := 84 } : Room) s m ([.ref aF, .long x1] : List Value).toArray below meth c H locs 0 0 Q (F0 m 17 ls [])) (by
    intro v5_3 v6_4 hq H locs ls hP hD hS hl
    refine lv_iload hx hb dX0_punchesFor_17 (lv_at hl 5 rfl) ?_
    refine lv_iload hx hb dX0_punchesFor_19 (lv_at hl 3 rfl) ?_
    refine lv_icmp_ge (tgt := 101) hx hb dX0_punchesFor_21 (by decide) (fun hc => ?_) (fun hc => ?_)
    · have hq := hq.1 hc
      refine lv_iload hx hb dX0_punchesFor_101 (lv_at hl 4 rfl) ?_
      exact hret _ _ _ _ _ dX0_punchesFor_103 hP hD hS hq
    · have hq := hq.2 hc
      refine lv_iconst (v := 0) hx hb dX0_punchesFor_24 (by decide) ?_
      refine lv_istore (lv' := [(7, .int (0 : Int32)), (0, .ref aF), (1, .long x1), (3, .int r_1), (4, .int r_2), (5, .int v5_3), (6, .int v6_4)]) hx hb dX0_punchesFor_25 hl (by decide) rfl (fun ls hl => ?_)
      have hq := hq (fun (v5_5 : Int32) (v7_6 : Int32) => ∀ (H : Heap) (locs : List Loc) (ls : Array Slot), va_P (dC, dI) vwCl [(aF, .inr (0, [.ref aK, .int made, .int mac])), (aK, .inl (cI, 6, .inl ks))] H → va_D A [(aF, .inr (0, [.ref aK, .int made, .int mac])), (aK, .inl (cI, 6, .inl ks))] → va_S A s.heap H locs → lv_has ls 12 [(0, .ref aF), (1, .long x1), (3, .int r_1), (4, .int r_2), (5, .int v5_5), (6, .int v6_4), (7, .int v7_6)] → W p l e ({ frames := 3, cells := 0, slots := 0, locals := 84 } : Room) s m ([.ref aF, .long x1] : List Value).toArray below meth c H locs 0 0 Q (F0 m 27 ls [])) (by
        intro v5_5 v7_6 hq H locs ls hP hD hS hl
        refine lv_iload hx hb dX0_punchesFor_27 (lv_at hl 6 rfl) ?_
        refine lv_iload_n hx hb dX0_punchesFor_29 rfl (lv_at hl 2 rfl) ?_
        refine lv_icmp_ge (tgt := 95) hx hb dX0_punchesFor_30 (by decide) (fun hc => ?_) (fun hc => ?_)
        · have hq := hq.1 hc
          refine lv_iinc (v := (v6_4 + (1 : Int32))) (lv' := [(6, .int (v6_4 + (1 : Int32))), (0, .ref aF), (1, .long x1), (3, .int r_1), (4, .int r_2), (5, .int v5_5), (7, .int v7_6)]) hx hb dX0_punchesFor_95 hl (k := 5) rfl rfl (by decide) rfl (fun ls hl => ?_)
          refine lv_goto (tgt := 17) hx hb dX0_punchesFor_98 (by decide) ?_
          exact hq _ _ _ hP hD hS (lv_sub hl [1, 2, 3, 4, 5, 0] rfl)
        · have hq := hq.2 hc
          refine lv_aload_n hx hb dX0_punchesFor_33 rfl (lv_at hl 0 rfl) ?_
          refine lv_iload hx hb dX0_punchesFor_34 (lv_at hl 6 rfl) ?_
          refine lv_iload hx hb dX0_punchesFor_36 (lv_at hl 5 rfl) ?_
          refine lv_aload_n hx hb dX0_punchesFor_38 rfl (lv_at hl 0 rfl) ?_
          have hPc := hP.sub (ws' := [(aF, .inr (0, [.ref aK, .int made, .int mac]))]) [0] rfl
          have hDc := hD.sub (ws' := [(aF, .inr (0, [.ref aK, .int made, .int mac]))]) [0] (by decide) rfl
          have hFc := va_free (wc := [(aF, .inr (0, [.ref aK, .int made, .int mac]))]) hD hS hA [0] rfl
          refine va_calli (va_runV (As := []) (rest := [.int v6_4, .int v7_6, .ref aF]) ⟨hx, hb, hml, hown, hts⟩ (c_X0_layers l dC dI cI cC cS aF aK _ made mac hq) (cwV 0 hts gX0_punchesFor_X0_layers rfl rfl rfl (by decide +kernel) ⟨Nat.le_of_ble_eq_true rfl, Nat.le_of_ble_eq_true rfl⟩) (gn_preV hPc hK hN hDc (ci := 0) (q0 := 0) rfl rfl) rfl rfl hl.1 rfl (lv_room (Nat.le_of_ble_eq_true rfl)) dX0_punchesFor_39 ⟨Nat.zero_le _, Nat.zero_le _⟩) hS (fun q _ h => hFc q h) hFc (fun r_7 u t H1 locs ht hvm hq hB hz1 hk1 hS => ?_)
          obtain ⟨hP1, hK1, hD1⟩ := hB
          rw [ht] at hP1
          try dsimp only at hq
          obtain ⟨hP, hD⟩ := va_join (wr := [(aK, .inl (cI, 6, .inl ks))]) (w1 := [(aF, .inr (0, [.ref aK, .int made, .int mac]))]) hP hD [0] [1] rfl rfl (by decide) (by decide) hk1 hFc hP1 hD1
          have hP := hP.sub (ws' := [(aF, .inr (0, [.ref aK, .int made, .int mac])), (aK, .inl (cI, 6, .inl ks))]) [1, 0] rfl
          have hD := hD.sub (ws' := [(aF, .inr (0, [.ref aK, .int made, .int mac])), (aK, .inl (cI, 6, .inl ks))]) [1, 0] (by decide) rfl
          generalize H1 = H at hP hS ⊢
          have hPc := hP.sub (ws' := [(aF, .inr (0, [.ref aK, .int made, .int mac])), (aK, .inl (cI, 6, .inl ks))]) [0, 1] rfl
          have hDc := hD.sub (ws' := [(aF, .inr (0, [.ref aK, .int made, .int mac])), (aK, .inl (cI, 6, .inl ks))]) [0, 1] (by decide) rfl
          have hFc := va_free (wc := [(aF, .inr (0, [.ref aK, .int made, .int mac])), (aK, .inl (cI, 6, .inl ks))]) hD hS hA [0, 1] rfl
          refine va_calll (va_runV (As := [.int v7_6, .int v6_4, .int r_7]) (rest := []) ⟨hx, hb, hml, hown, hts⟩ (c_X0_uppermostCells l dC dI cI cC cS aF aK _ made mac ks v7_6 v6_4 r_7 hq) (cwV 3 hts gX0_punchesFor_X0_uppermostCells rfl rfl rfl (by decide +kernel) ⟨Nat.le_of_ble_eq_true rfl, Nat.le_of_ble_eq_true rfl⟩) (gn_preV hPc hK hN hDc (ci := 0) (q0 := 0) rfl rfl) rfl rfl hl.1 rfl (lv_room (Nat.le_of_ble_eq_true rfl)) dX0_punchesFor_42 ⟨Nat.zero_le _, Nat.zero_le _⟩) hS (fun q _ h => hFc q h) hFc (fun r_8 u t H1 locs ht hvm hq hB hz1 hk1 hS => ?_)
          obtain ⟨hP1, hK1, hD1⟩ := hB
          rw [ht] at hP1
          try dsimp only at hq
          obtain ⟨hP, hD⟩ := va_join (wr := []) (w1 := [(aF, .inr (0, [.ref aK, .int made, .int mac])), (aK, .inl (cI, 6, .inl ks))]) hP hD [0, 1] [] rfl rfl (by decide) (by decide) hk1 hFc hP1 hD1
          have hP := hP.sub (ws' := [(aF, .inr (0, [.ref aK, .int made, .int mac])), (aK, .inl (cI, 6, .inl ks))]) [0, 1] rfl
          have hD := hD.sub (ws' := [(aF, .inr (0, [.ref aK, .int made, .int mac])), (aK, .inl (cI, 6, .inl ks))]) [0, 1] (by decide) rfl
          generalize H1 = H at hP hS ⊢
          refine lv_lstore (lv' := [(8, .long r_8), (0, .ref aF), (1, .long x1), (3, .int r_1), (4, .int r_2), (5, .int v5_5), (6, .int v6_4), (7, .int v7_6)]) hx hb dX0_punchesFor_45 hl (by decide) rfl (fun ls hl => ?_)
          refine lv_lload hx hb dX0_punchesFor_47 (lv_at hl 0 rfl) ?_
          refine lv_lload_n hx hb dX0_punchesFor_49 rfl (lv_at hl 2 rfl) ?_
          refine lv_land hx hb dX0_punchesFor_50 ?_
          refine lv_topl (fun w10_9 ew10_9 => ?_)
          have hq := hq w10_9 ew10_9
          refine lv_lstore (lv' := [(10, .long w10_9), (8, .long r_8), (0, .ref aF), (1, .long x1), (3, .int r_1), (4, .int r_2), (5, .int v5_5), (6, .int v6_4), (7, .int v7_6)]) hx hb dX0_punchesFor_51 hl (by decide) rfl (fun ls hl => ?_)
          refine lv_lload hx hb dX0_punchesFor_53 (lv_at hl 0 rfl) ?_
          refine lv_lconst (v := 0) hx hb dX0_punchesFor_55 (by decide) ?_
          refine W.lcmp hx hb dX0_punchesFor_56 ?_
          have hq := hq (∀ (H : Heap) (locs : List Loc) (ls : Array Slot), va_P (dC, dI) vwCl [(aF, .inr (0, [.ref aK, .int made, .int mac])), (aK, .inl (cI, 6, .inl ks))] H → va_D A [(aF, .inr (0, [.ref aK, .int made, .int mac])), (aK, .inl (cI, 6, .inl ks))] → va_S A s.heap H locs → lv_has ls 12 [(0, .ref aF), (1, .long x1), (3, .int r_1), (4, .int r_2), (5, .int v5_5), (6, .int v6_4), (7, .int v7_6), (8, .long r_8), (10, .long w10_9)] → W p l e ({ frames := 3, cells := 0, slots := 0, locals := 84 } : Room) s m ([.ref aF, .long x1] : List Value).toArray below meth c H locs 0 0 Q (F0 m 71 ls [])) (by
            intro  hq H locs ls hP hD hS hl
            refine lv_iload hx hb dX0_punchesFor_71 (lv_at hl 4 rfl) ?_
            refine lv_lload hx hb dX0_punchesFor_73 (lv_at hl 8 rfl) ?_
            refine lv_lload hx hb dX0_punchesFor_75 (lv_at hl 7 rfl) ?_
            refine W.lcmp hx hb dX0_punchesFor_77 ?_
            have hq := hq (fun (t_10 : Int32) => ∀ (H : Heap) (locs : List Loc) (ls : Array Slot), va_P (dC, dI) vwCl [(aF, .inr (0, [.ref aK, .int made, .int mac])), (aK, .inl (cI, 6, .inl ks))] H → va_D A [(aF, .inr (0, [.ref aK, .int made, .int mac])), (aK, .inl (cI, 6, .inl ks))] → va_S A s.heap H locs → lv_has ls 12 [(0, .ref aF), (1, .long x1), (3, .int r_1), (4, .int r_2), (6, .int v6_4), (7, .int v7_6)] → W p l e ({ frames := 3, cells := 0, slots := 0, locals := 84 } : Room) s m ([.ref aF, .long x1] : List Value).toArray below meth c H locs 0 0 Q (F0 m 86 ls [.int t_10, .int v5_5])) (by
              intro t_10 hq H locs ls hP hD hS hl
              refine lv_iadd hx hb dX0_punchesFor_86 ?_
              refine lv_topi (fun w5_11 ew5_11 => ?_)
              have hq := hq w5_11 ew5_11
              refine lv_istore (lv' := [(5, .int w5_11), (0, .ref aF), (1, .long x1), (3, .int r_1), (4, .int r_2), (6, .int v6_4), (7, .int v7_6)]) hx hb dX0_punchesFor_87 hl (by decide) rfl (fun ls hl => ?_)
              refine lv_iinc (v := (v7_6 + (1 : Int32))) (lv' := [(7, .int (v7_6 + (1 : Int32))), (5, .int w5_11), (0, .ref aF), (1, .long x1), (3, .int r_1), (4, .int r_2), (6, .int v6_4)]) hx hb dX0_punchesFor_89 hl (k := 6) rfl rfl (by decide) rfl (fun ls hl => ?_)
              refine lv_goto (tgt := 27) hx hb dX0_punchesFor_92 (by decide) ?_
              exact hq _ _ _ hP hD hS (lv_sub hl [2, 3, 4, 5, 1, 6, 0] rfl))
            refine lv_if_ne (tgt := 85) hx hb dX0_punchesFor_78 (by decide) (fun hc => ?_) (fun hc => ?_)
            · have hq := hq.1 hc
              refine lv_iconst (v := 0) hx hb dX0_punchesFor_85 (by decide) ?_
              exact hq _ _ _ hP hD hS (lv_sub hl [0, 1, 2, 3, 5, 6] rfl)
            · have hq := hq.2 hc
              refine lv_iconst (v := 1) hx hb dX0_punchesFor_81 (by decide) ?_
              refine lv_goto (tgt := 86) hx hb dX0_punchesFor_82 (by decide) ?_
              exact hq _ _ _ hP hD hS (lv_sub hl [0, 1, 2, 3, 5, 6] rfl))
          refine lv_if_eq (tgt := 71) hx hb dX0_punchesFor_57 (by decide) (fun hc => ?_) (fun hc => ?_)
          · have hq := hq.1 hc
            exact hq _ _ _ hP hD hS (lv_sub hl [2, 3, 4, 5, 6, 7, 8, 1, 0] rfl)
          · have hq := hq.2 hc
            refine lv_lload hx hb dX0_punchesFor_60 (lv_at hl 0 rfl) ?_
            refine lv_lload hx hb dX0_punchesFor_62 (lv_at hl 1 rfl) ?_
            refine W.lcmp hx hb dX0_punchesFor_64 ?_
            refine lv_if_eq (tgt := 71) hx hb dX0_punchesFor_65 (by decide) (fun hc => ?_) (fun hc => ?_)
            · have hq := hq.1 hc
              exact hq _ _ _ hP hD hS (lv_sub hl [2, 3, 4, 5, 6, 7, 8, 1, 0] rfl)
            · have hq := hq.2 hc
              refine lv_bipush (v := -6) hx hb dX0_punchesFor_68 (by decide) ?_
              exact hret _ _ _ _ _ dX0_punchesFor_70 hP hD hS hq)
      exact hq _ _ _ hP hD hS (lv_sub hl [1, 2, 3, 4, 5, 6, 0] rfl))
  exact hq _ _ _ hP hD hS (lv_sub hl [4, 5, 3, 2, 1, 0] rfl)
