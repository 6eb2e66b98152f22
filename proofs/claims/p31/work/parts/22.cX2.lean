def wp_X2_besideOf (x0 : Int64) (post : Int64 → Prop) : Prop :=
  ∀ w2_1 : Int64, w2_1 = (((x0 &&& (9187201950435737471 : Int64)) <<< (((1 : Int32)).toInt64 &&& (63 : Int64))) ||| ((((x0 &&& (-72340172838076674 : Int64))).toUInt64 >>> (((1 : Int32)).toInt64.toUInt64 &&& Int64.toUInt64 63)).toInt64)) → post ((w2_1 ||| (x0 <<< (((8 : Int32)).toInt64 &&& (63 : Int64)))) ||| (((x0).toUInt64 >>> (((8 : Int32)).toInt64.toUInt64 &&& Int64.toUInt64 63)).toInt64))
def wp_X2_firstOf (x0 : Int64) (post : Int64 → Prop) : Prop :=
  ∀ w2_1 : Int64, w2_1 = (x0 &&& (-x0)) → wp_X2_besideOf w2_1 (fun r_2 => ∀ w4_3 : Int64, w4_3 = (w2_1 ||| (r_2 &&& x0)) → ∀ (P18 : Int64 → Int64 → Int32 → Prop), (∀ (v2_4 : Int64) (v4_5 : Int64) (v6_6 : Int32), (∀ (P51 : Prop), ((post v4_5) → P51 ) → (((64 : Int32) ≤ v6_6) → P51) ∧ ((¬ (64 : Int32) ≤ v6_6) → (((lg_cmp v4_5 v2_4) = 0) → P51) ∧ ((¬ (lg_cmp v4_5 v2_4) = 0) → wp_X2_besideOf v4_5 (fun r_7 => ∀ w4_8 : Int64, w4_8 = (v4_5 ||| (r_7 &&& x0)) → P18 v4_5 w4_8 (v6_6 + (1 : Int32)))))) → P18 v2_4 v4_5 v6_6) → P18 w2_1 w4_3 (0 : Int32))
def wp_X2_numberIn (x0 : Int64) (post : Int32 → Prop) : Prop :=
  ∀ (P8 : Int64 → Int32 → Int32 → Prop), (∀ (v2_1 : Int64) (v4_2 : Int32) (v5_3 : Int32), (∀ (P41 : Prop), ((post v4_2) → P41 ) → (((64 : Int32) ≤ v5_3) → P41) ∧ ((¬ (64 : Int32) ≤ v5_3) → (((lg_cmp v2_1 (0 : Int64)) = 0) → P41) ∧ ((¬ (lg_cmp v2_1 (0 : Int64)) = 0) → wp_X2_firstOf v2_1 (fun r_4 => ∀ w2_5 : Int64, w2_5 = (v2_1 &&& (r_4 ^^^ (-1 : Int64))) → P8 w2_5 (v4_2 + (1 : Int32)) (v5_3 + (1 : Int32)))))) → P8 v2_1 v4_2 v5_3) → P8 x0 (0 : Int32) (0 : Int32)
def wp_X2_largestIn (x0 : Int64) (post : Int32 → Prop) : Prop :=
  ∀ (P8 : Int64 → Int32 → Int32 → Prop), (∀ (v2_1 : Int64) (v4_2 : Int32) (v5_3 : Int32), (∀ (P54 : Prop), ((post v4_2) → P54 ) → (((64 : Int32) ≤ v5_3) → P54) ∧ ((¬ (64 : Int32) ≤ v5_3) → (((lg_cmp v2_1 (0 : Int64)) = 0) → P54) ∧ ((¬ (lg_cmp v2_1 (0 : Int64)) = 0) → wp_X2_firstOf v2_1 (fun r_4 => ∀ w2_5 : Int64, w2_5 = (v2_1 &&& (r_4 ^^^ (-1 : Int64))) → wp_J13_bitCount_95d88 r_4 (fun r_6 => ∀ w4_7 : Int32, w4_7 = (if v4_2 < r_6 then r_6 else v4_2) → P8 w2_5 w4_7 (v5_3 + (1 : Int32))))))) → P8 v2_1 v4_2 v5_3) → P8 x0 (0 : Int32) (0 : Int32)
set_option maxRecDepth 20000 in
theorem kwX2_besideOf_32 : Cond.constantLong RX2 32 (9187201950435737471) ∈ wsX2_besideOf := by decide +kernel
set_option maxRecDepth 20000 in
theorem kwX2_besideOf_34 : Cond.constantLong RX2 34 (-72340172838076674) ∈ wsX2_besideOf := by decide +kernel
set_option maxHeartbeats 4000000 in
set_option maxRecDepth 100000 in
theorem c_X2_besideOf (l : Launch) (dC : Nat → ClassId) (dI : Nat → Nat → Nat) (cI cC cS : ClassId) (sz : Nat) (x0 : Int64) {post : Int64 → Prop} (hq : wp_X2_besideOf x0 post) : Met l yX2_besideOf wsX2_besideOf ({ frames := 0, cells := 0, slots := 0, locals := 0 } : Room) (gn_Pre (dC, dI) cI cC cS [.long x0] sz []) (va_Ql (fun (r : Int64) (u : Unit) => post r) (fun (u : Unit) t => va_P (dC, dI) vwCl [] t.heap ∧ va_K (dC, dI) vwCl (gn_tys cI cC cS) t ∧ va_D (va_A [] sz) []) (va_A [] sz)) 0 0 (va_A [] sz) := by
  unfold wp_X2_besideOf at hq
  refine Met.ofW (cc := cX2_besideOf) (maxL := 4) (ret := (some .long)) (by decide) rfl ?_
  intro p e s m args below meth c s₁ B hml hv
  obtain ⟨rfl, hsz, hP, hK, hN, hD0⟩ := hv
  have hx := B.exec
  have hb := B.bytes
  have hr := B.returns
  have hts := atoms_spec (ws := wsX2_besideOf) B.pre
  have hown : s.vm.findClass RX2 = some m.cls := findClass_of_methodNamed B.named
  have hlocks := B.notSynchronized
  subst hsz
  have hD := hD0.self (sz := s.heap.size)
  generalize hAe : va_A [] s.heap.size = A at hD ⊢
  have hA : ∀ q : Nat, s.heap.size ≤ q → A q := fun q h => by rw [← hAe]; exact Or.inr h
  have hS : va_S A s.heap s.heap [] := va_S.rf
  have hl := lv_entry ([.long x0] : List Value) (n := 4) (Nat.le_of_ble_eq_true rfl)
  rw [lg_entry_eq]
  generalize (lg_sl ([.long x0] : List Value) ++ List.replicate (4 - (lg_sl ([.long x0] : List Value)).length) Slot.unset).toArray = ls at hl ⊢
  have hl : lv_has ls 4 [(0, .long x0)] := hl
  refine gn_Q (hret := fun Q => ∀ (pc : Nat) (ls : Array Slot) (H : Heap) (locs : List Loc) (r : Int64) , decode cX2_besideOf pc = .ok (.lreturn, 1) → va_P (dC, dI) vwCl [] H → va_D A [] → va_S A s.heap H locs → post r → W p l e ({ frames := 0, cells := 0, slots := 0, locals := 0 } : Room) s m ([.long x0] : List Value).toArray below meth c H locs 0 0 Q (F0 m pc ls [.long r])) (fun Q hret => ?_) ?_
  rotate_left
  · intro pc ls H locs r hdg hP hD hS hpost
    exact W.lret (v := r) hx hb hr (fun t ht hW => ⟨⟨r, (), rfl, hpost, by rw [ht]; exact hP, va_K.moved hW.alike hK, hD⟩, hS.F ht⟩) hS.2.2 hdg
  refine lv_lload_n hx hb dX2_besideOf_0 rfl (lv_at hl 0 rfl) ?_
  refine lv_ldc2 (v := 9187201950435737471) hx hb hown (hts _ kwX2_besideOf_32) dX2_besideOf_1 ?_
  refine lv_land hx hb dX2_besideOf_4 ?_
  refine lv_iconst (v := 1) hx hb dX2_besideOf_5 (by decide) ?_
  refine lv_lshl hx hb dX2_besideOf_6 rfl ?_
  refine lv_lload_n hx hb dX2_besideOf_7 rfl (lv_at hl 0 rfl) ?_
  refine lv_ldc2 (v := -72340172838076674) hx hb hown (hts _ kwX2_besideOf_34) dX2_besideOf_8 ?_
  refine lv_land hx hb dX2_besideOf_11 ?_
  refine lv_iconst (v := 1) hx hb dX2_besideOf_12 (by decide) ?_
  refine lv_lushr hx hb dX2_besideOf_13 rfl ?_
  refine lv_lor hx hb dX2_besideOf_14 ?_
  refine lv_topl (fun w2_1 ew2_1 => ?_)
  have hq := hq w2_1 ew2_1
  refine lv_lstore_n (lv' := [(2, .long w2_1), (0, .long x0)]) hx hb dX2_besideOf_15 rfl hl (by decide) rfl (fun ls hl => ?_)
  refine lv_lload_n hx hb dX2_besideOf_16 rfl (lv_at hl 0 rfl) ?_
  refine lv_lload_n hx hb dX2_besideOf_17 rfl (lv_at hl 1 rfl) ?_
  refine lv_bipush (v := 8) hx hb dX2_besideOf_18 (by decide) ?_
  refine lv_lshl hx hb dX2_besideOf_20 rfl ?_
  refine lv_lor hx hb dX2_besideOf_21 ?_
  refine lv_lload_n hx hb dX2_besideOf_22 rfl (lv_at hl 1 rfl) ?_
  refine lv_bipush (v := 8) hx hb dX2_besideOf_23 (by decide) ?_
  refine lv_lushr hx hb dX2_besideOf_25 rfl ?_
  refine lv_lor hx hb dX2_besideOf_26 ?_
  exact hret _ _ _ _ _ dX2_besideOf_27 hP hD hS hq
set_option maxHeartbeats 4000000 in
set_option maxRecDepth 100000 in
theorem c_X2_firstOf (l : Launch) (dC : Nat → ClassId) (dI : Nat → Nat → Nat) (cI cC cS : ClassId) (sz : Nat) (x0 : Int64) {post : Int64 → Prop} (hq : wp_X2_firstOf x0 post) : Met l yX2_firstOf wsX2_firstOf ({ frames := 1, cells := 0, slots := 0, locals := 23 } : Room) (gn_Pre (dC, dI) cI cC cS [.long x0] sz []) (va_Ql (fun (r : Int64) (u : Unit) => post r) (fun (u : Unit) t => va_P (dC, dI) vwCl [] t.heap ∧ va_K (dC, dI) vwCl (gn_tys cI cC cS) t ∧ va_D (va_A [] sz) []) (va_A [] sz)) 0 0 (va_A [] sz) := by
  unfold wp_X2_firstOf at hq
  refine Met.ofW (cc := cX2_firstOf) (maxL := 7) (ret := (some .long)) (by decide) rfl ?_
  intro p e s m args below meth c s₁ B hml hv
  obtain ⟨rfl, hsz, hP, hK, hN, hD0⟩ := hv
  have hx := B.exec
  have hb := B.bytes
  have hr := B.returns
  have hts := atoms_spec (ws := wsX2_firstOf) B.pre
  have hown : s.vm.findClass RX2 = some m.cls := findClass_of_methodNamed B.named
  have hlocks := B.notSynchronized
  subst hsz
  have hD := hD0.self (sz := s.heap.size)
  generalize hAe : va_A [] s.heap.size = A at hD ⊢
  have hA : ∀ q : Nat, s.heap.size ≤ q → A q := fun q h => by rw [← hAe]; exact Or.inr h
  have hS : va_S A s.heap s.heap [] := va_S.rf
  have hl := lv_entry ([.long x0] : List Value) (n := 7) (Nat.le_of_ble_eq_true rfl)
  rw [lg_entry_eq]
  generalize (lg_sl ([.long x0] : List Value) ++ List.replicate (7 - (lg_sl ([.long x0] : List Value)).length) Slot.unset).toArray = ls at hl ⊢
  have hl : lv_has ls 7 [(0, .long x0)] := hl
  refine gn_Q (hret := fun Q => ∀ (pc : Nat) (ls : Array Slot) (H : Heap) (locs : List Loc) (r : Int64) , decode cX2_firstOf pc = .ok (.lreturn, 1) → va_P (dC, dI) vwCl [] H → va_D A [] → va_S A s.heap H locs → post r → W p l e ({ frames := 1, cells := 0, slots := 0, locals := 23 } : Room) s m ([.long x0] : List Value).toArray below meth c H locs 0 0 Q (F0 m pc ls [.long r])) (fun Q hret => ?_) ?_
  rotate_left
  · intro pc ls H locs r hdg hP hD hS hpost
    exact W.lret (v := r) hx hb hr (fun t ht hW => ⟨⟨r, (), rfl, hpost, by rw [ht]; exact hP, va_K.moved hW.alike hK, hD⟩, hS.F ht⟩) hS.2.2 hdg
  refine lv_lload_n hx hb dX2_firstOf_0 rfl (lv_at hl 0 rfl) ?_
  refine lv_lload_n hx hb dX2_firstOf_1 rfl (lv_at hl 0 rfl) ?_
  refine lv_lneg hx hb dX2_firstOf_2 ?_
  refine lv_land hx hb dX2_firstOf_3 ?_
  refine lv_topl (fun w2_1 ew2_1 => ?_)
  have hq := hq w2_1 ew2_1
  refine lv_lstore_n (lv' := [(2, .long w2_1), (0, .long x0)]) hx hb dX2_firstOf_4 rfl hl (by decide) rfl (fun ls hl => ?_)
  refine lv_lload_n hx hb dX2_firstOf_5 rfl (lv_at hl 0 rfl) ?_
  refine lv_lload_n hx hb dX2_firstOf_6 rfl (lv_at hl 0 rfl) ?_
  have hPc := hP.sub (ws' := []) [] rfl
  have hDc := hD.sub (ws' := []) [] (by decide) rfl
  have hFc := va_free (wc := []) hD hS hA [] rfl
  refine va_calll (va_runS (As := [.long w2_1]) (rest := [.long w2_1]) ⟨hx, hb, hml, hown, hts⟩ (c_X2_besideOf l dC dI cI cC cS _ w2_1 hq) (va_cwS 1 hts gX2_firstOf_X2_besideOf rfl rfl rfl (by decide +kernel) ⟨Nat.le_of_ble_eq_true rfl, Nat.le_of_ble_eq_true rfl⟩) (gn_preS hPc hK hN hDc) rfl rfl hl.1 rfl (lv_room (Nat.le_of_ble_eq_true rfl)) dX2_firstOf_7 ⟨Nat.zero_le _, Nat.zero_le _⟩) hS (fun q _ h => hFc q h) hFc (fun r_2 u t H1 locs ht hvm hq hB hz1 hk1 hS => ?_)
  obtain ⟨hP1, hK1, hD1⟩ := hB
  rw [ht] at hP1
  try dsimp only at hq
  obtain ⟨hP, hD⟩ := va_join (wr := []) (w1 := []) hP hD [] [] rfl rfl (by decide) (by decide) hk1 hFc hP1 hD1
  have hP : va_P (dC, dI) vwCl [] H1 := hP
  have hD : va_D A [] := hD
  generalize H1 = H at hP hS ⊢
  refine lv_lload_n hx hb dX2_firstOf_10 rfl (lv_at hl 1 rfl) ?_
  refine lv_land hx hb dX2_firstOf_11 ?_
  refine lv_lor hx hb dX2_firstOf_12 ?_
  refine lv_topl (fun w4_3 ew4_3 => ?_)
  have hq := hq w4_3 ew4_3
  refine lv_lstore (lv' := [(4, .long w4_3), (2, .long w2_1), (0, .long x0)]) hx hb dX2_firstOf_13 hl (by decide) rfl (fun ls hl => ?_)
  refine lv_iconst (v := 0) hx hb dX2_firstOf_15 (by decide) ?_
  refine lv_istore (lv' := [(6, .int (0 : Int32)), (4, .long w4_3), (2, .long w2_1), (0, .long x0)]) hx hb dX2_firstOf_16 hl (by decide) rfl (fun ls hl => ?_)
  have hq := hq (fun (v2_4 : Int64) (v4_5 : Int64) (v6_6 : Int32) => ∀ (H : Heap) (locs : List Loc) (ls : Array Slot), va_P (dC, dI) vwCl [] H → va_D A [] → va_S A s.heap H locs → lv_has ls 7 [(0, .long x0), (2, .long v2_4), (4, .long v4_5), (6, .int v6_6)] → W p l e ({ frames := 1, cells := 0, slots := 0, locals := 23 } : Room) s m ([.long x0] : List Value).toArray below meth c H locs 0 0 Q (F0 m 18 ls [])) (by
    intro v2_4 v4_5 v6_6 hq H locs ls hP hD hS hl
    refine lv_iload hx hb dX2_firstOf_18 (lv_at hl 3 rfl) ?_
    refine lv_bipush (v := 64) hx hb dX2_firstOf_20 (by decide) ?_
    have hq := hq (∀ (H : Heap) (locs : List Loc) (ls : Array Slot), va_P (dC, dI) vwCl [] H → va_D A [] → va_S A s.heap H locs → lv_has ls 7 [(4, .long v4_5)] → W p l e ({ frames := 1, cells := 0, slots := 0, locals := 23 } : Room) s m ([.long x0] : List Value).toArray below meth c H locs 0 0 Q (F0 m 51 ls [])) (by
      intro  hq H locs ls hP hD hS hl
      refine lv_lload hx hb dX2_firstOf_51 (lv_at hl 0 rfl) ?_
      exact hret _ _ _ _ _ dX2_firstOf_53 hP hD hS hq)
    refine lv_icmp_ge (tgt := 51) hx hb dX2_firstOf_22 (by decide) (fun hc => ?_) (fun hc => ?_)
    · have hq := hq.1 hc
      exact hq _ _ _ hP hD hS (lv_sub hl [2] rfl)
    · have hq := hq.2 hc
      refine lv_lload hx hb dX2_firstOf_25 (lv_at hl 2 rfl) ?_
      refine lv_lload_n hx hb dX2_firstOf_27 rfl (lv_at hl 1 rfl) ?_
      refine W.lcmp hx hb dX2_firstOf_28 ?_
      refine lv_if_eq (tgt := 51) hx hb dX2_firstOf_29 (by decide) (fun hc => ?_) (fun hc => ?_)
      · have hq := hq.1 hc
        exact hq _ _ _ hP hD hS (lv_sub hl [2] rfl)
      · have hq := hq.2 hc
        refine lv_lload hx hb dX2_firstOf_32 (lv_at hl 2 rfl) ?_
        refine lv_lstore_n (lv' := [(2, .long v4_5), (0, .long x0), (4, .long v4_5), (6, .int v6_6)]) hx hb dX2_firstOf_34 rfl hl (by decide) rfl (fun ls hl => ?_)
        refine lv_lload_n hx hb dX2_firstOf_35 rfl (lv_at hl 0 rfl) ?_
        refine lv_lload_n hx hb dX2_firstOf_36 rfl (lv_at hl 0 rfl) ?_
        have hPc := hP.sub (ws' := []) [] rfl
        have hDc := hD.sub (ws' := []) [] (by decide) rfl
        have hFc := va_free (wc := []) hD hS hA [] rfl
        refine va_calll (va_runS (As := [.long v4_5]) (rest := [.long v4_5]) ⟨hx, hb, hml, hown, hts⟩ (c_X2_besideOf l dC dI cI cC cS _ v4_5 hq) (va_cwS 1 hts gX2_firstOf_X2_besideOf rfl rfl rfl (by decide +kernel) ⟨Nat.le_of_ble_eq_true rfl, Nat.le_of_ble_eq_true rfl⟩) (gn_preS hPc hK hN hDc) rfl rfl hl.1 rfl (lv_room (Nat.le_of_ble_eq_true rfl)) dX2_firstOf_37 ⟨Nat.zero_le _, Nat.zero_le _⟩) hS (fun q _ h => hFc q h) hFc (fun r_7 u t H1 locs ht hvm hq hB hz1 hk1 hS => ?_)
        obtain ⟨hP1, hK1, hD1⟩ := hB
        rw [ht] at hP1
        try dsimp only at hq
        obtain ⟨hP, hD⟩ := va_join (wr := []) (w1 := []) hP hD [] [] rfl rfl (by decide) (by decide) hk1 hFc hP1 hD1
        have hP : va_P (dC, dI) vwCl [] H1 := hP
        have hD : va_D A [] := hD
        generalize H1 = H at hP hS ⊢
        refine lv_lload_n hx hb dX2_firstOf_40 rfl (lv_at hl 1 rfl) ?_
        refine lv_land hx hb dX2_firstOf_41 ?_
        refine lv_lor hx hb dX2_firstOf_42 ?_
        refine lv_topl (fun w4_8 ew4_8 => ?_)
        have hq := hq w4_8 ew4_8
        refine lv_lstore (lv' := [(4, .long w4_8), (2, .long v4_5), (0, .long x0), (6, .int v6_6)]) hx hb dX2_firstOf_43 hl (by decide) rfl (fun ls hl => ?_)
        refine lv_iinc (v := (v6_6 + (1 : Int32))) (lv' := [(6, .int (v6_6 + (1 : Int32))), (4, .long w4_8), (2, .long v4_5), (0, .long x0)]) hx hb dX2_firstOf_45 hl (k := 3) rfl rfl (by decide) rfl (fun ls hl => ?_)
        refine lv_goto (tgt := 18) hx hb dX2_firstOf_48 (by decide) ?_
        exact hq _ _ _ hP hD hS (lv_sub hl [3, 2, 1, 0] rfl))
  exact hq _ _ _ hP hD hS (lv_sub hl [3, 2, 1, 0] rfl)
set_option maxRecDepth 20000 in
theorem kwX2_numberIn_15 : Cond.constantLong RX2 15 (-1) ∈ wsX2_numberIn := by decide +kernel
set_option maxHeartbeats 4000000 in
set_option maxRecDepth 100000 in
theorem c_X2_numberIn (l : Launch) (dC : Nat → ClassId) (dI : Nat → Nat → Nat) (cI cC cS : ClassId) (sz : Nat) (x0 : Int64) {post : Int32 → Prop} (hq : wp_X2_numberIn x0 post) : Met l yX2_numberIn wsX2_numberIn ({ frames := 2, cells := 0, slots := 0, locals := 49 } : Room) (gn_Pre (dC, dI) cI cC cS [.long x0] sz []) (va_Qi (fun (r : Int32) (u : Unit) => post r) (fun (u : Unit) t => va_P (dC, dI) vwCl [] t.heap ∧ va_K (dC, dI) vwCl (gn_tys cI cC cS) t ∧ va_D (va_A [] sz) []) (va_A [] sz)) 0 0 (va_A [] sz) := by
  unfold wp_X2_numberIn at hq
  refine Met.ofW (cc := cX2_numberIn) (maxL := 6) (ret := (some .int)) (by decide) rfl ?_
  intro p e s m args below meth c s₁ B hml hv
  obtain ⟨rfl, hsz, hP, hK, hN, hD0⟩ := hv
  have hx := B.exec
  have hb := B.bytes
  have hr := B.returns
  have hts := atoms_spec (ws := wsX2_numberIn) B.pre
  have hown : s.vm.findClass RX2 = some m.cls := findClass_of_methodNamed B.named
  have hlocks := B.notSynchronized
  subst hsz
  have hD := hD0.self (sz := s.heap.size)
  generalize hAe : va_A [] s.heap.size = A at hD ⊢
  have hA : ∀ q : Nat, s.heap.size ≤ q → A q := fun q h => by rw [← hAe]; exact Or.inr h
  have hS : va_S A s.heap s.heap [] := va_S.rf
  have hl := lv_entry ([.long x0] : List Value) (n := 6) (Nat.le_of_ble_eq_true rfl)
  rw [lg_entry_eq]
  generalize (lg_sl ([.long x0] : List Value) ++ List.replicate (6 - (lg_sl ([.long x0] : List Value)).length) Slot.unset).toArray = ls at hl ⊢
  have hl : lv_has ls 6 [(0, .long x0)] := hl
  refine gn_Q (hret := fun Q => ∀ (pc : Nat) (ls : Array Slot) (H : Heap) (locs : List Loc) (r : Int32) , decode cX2_numberIn pc = .ok (.ireturn, 1) → va_P (dC, dI) vwCl [] H → va_D A [] → va_S A s.heap H locs → post r → W p l e ({ frames := 2, cells := 0, slots := 0, locals := 49 } : Room) s m ([.long x0] : List Value).toArray below meth c H locs 0 0 Q (F0 m pc ls [.int r])) (fun Q hret => ?_) ?_
  rotate_left
  · intro pc ls H locs r hdg hP hD hS hpost
    exact W.iret (v := r) hx hb hr (fun t ht hW => ⟨⟨r, (), rfl, hpost, by rw [ht]; exact hP, va_K.moved hW.alike hK, hD⟩, hS.F ht⟩) hS.2.2 hdg
  refine lv_lload_n hx hb dX2_numberIn_0 rfl (lv_at hl 0 rfl) ?_
  refine lv_lstore_n (lv' := [(2, .long x0), (0, .long x0)]) hx hb dX2_numberIn_1 rfl hl (by decide) rfl (fun ls hl => ?_)
  refine lv_iconst (v := 0) hx hb dX2_numberIn_2 (by decide) ?_
  refine lv_istore (lv' := [(4, .int (0 : Int32)), (2, .long x0), (0, .long x0)]) hx hb dX2_numberIn_3 hl (by decide) rfl (fun ls hl => ?_)
  refine lv_iconst (v := 0) hx hb dX2_numberIn_5 (by decide) ?_
  refine lv_istore (lv' := [(5, .int (0 : Int32)), (4, .int (0 : Int32)), (2, .long x0), (0, .long x0)]) hx hb dX2_numberIn_6 hl (by decide) rfl (fun ls hl => ?_)
  have hq := hq (fun (v2_1 : Int64) (v4_2 : Int32) (v5_3 : Int32) => ∀ (H : Heap) (locs : List Loc) (ls : Array Slot), va_P (dC, dI) vwCl [] H → va_D A [] → va_S A s.heap H locs → lv_has ls 6 [(2, .long v2_1), (4, .int v4_2), (5, .int v5_3)] → W p l e ({ frames := 2, cells := 0, slots := 0, locals := 49 } : Room) s m ([.long x0] : List Value).toArray below meth c H locs 0 0 Q (F0 m 8 ls [])) (by
    intro v2_1 v4_2 v5_3 hq H locs ls hP hD hS hl
    refine lv_iload hx hb dX2_numberIn_8 (lv_at hl 2 rfl) ?_
    refine lv_bipush (v := 64) hx hb dX2_numberIn_10 (by decide) ?_
    have hq := hq (∀ (H : Heap) (locs : List Loc) (ls : Array Slot), va_P (dC, dI) vwCl [] H → va_D A [] → va_S A s.heap H locs → lv_has ls 6 [(4, .int v4_2)] → W p l e ({ frames := 2, cells := 0, slots := 0, locals := 49 } : Room) s m ([.long x0] : List Value).toArray below meth c H locs 0 0 Q (F0 m 41 ls [])) (by
      intro  hq H locs ls hP hD hS hl
      refine lv_iload hx hb dX2_numberIn_41 (lv_at hl 0 rfl) ?_
      exact hret _ _ _ _ _ dX2_numberIn_43 hP hD hS hq)
    refine lv_icmp_ge (tgt := 41) hx hb dX2_numberIn_12 (by decide) (fun hc => ?_) (fun hc => ?_)
    · have hq := hq.1 hc
      exact hq _ _ _ hP hD hS (lv_sub hl [1] rfl)
    · have hq := hq.2 hc
      refine lv_lload_n hx hb dX2_numberIn_15 rfl (lv_at hl 0 rfl) ?_
      refine lv_lconst (v := 0) hx hb dX2_numberIn_16 (by decide) ?_
      refine W.lcmp hx hb dX2_numberIn_17 ?_
      refine lv_if_eq (tgt := 41) hx hb dX2_numberIn_18 (by decide) (fun hc => ?_) (fun hc => ?_)
      · have hq := hq.1 hc
        exact hq _ _ _ hP hD hS (lv_sub hl [1] rfl)
      · have hq := hq.2 hc
        refine lv_lload_n hx hb dX2_numberIn_21 rfl (lv_at hl 0 rfl) ?_
        refine lv_lload_n hx hb dX2_numberIn_22 rfl (lv_at hl 0 rfl) ?_
        have hPc := hP.sub (ws' := []) [] rfl
        have hDc := hD.sub (ws' := []) [] (by decide) rfl
        have hFc := va_free (wc := []) hD hS hA [] rfl
        refine va_calll (va_runS (As := [.long v2_1]) (rest := [.long v2_1]) ⟨hx, hb, hml, hown, hts⟩ (c_X2_firstOf l dC dI cI cC cS _ v2_1 hq) (va_cwS 1 hts gX2_numberIn_X2_firstOf rfl rfl rfl (by decide +kernel) ⟨Nat.le_of_ble_eq_true rfl, Nat.le_of_ble_eq_true rfl⟩) (gn_preS hPc hK hN hDc) rfl rfl hl.1 rfl (lv_room (Nat.le_of_ble_eq_true rfl)) dX2_numberIn_23 ⟨Nat.zero_le _, Nat.zero_le _⟩) hS (fun q _ h => hFc q h) hFc (fun r_4 u t H1 locs ht hvm hq hB hz1 hk1 hS => ?_)
        obtain ⟨hP1, hK1, hD1⟩ := hB
        rw [ht] at hP1
        try dsimp only at hq
        obtain ⟨hP, hD⟩ := va_join (wr := []) (w1 := []) hP hD [] [] rfl rfl (by decide) (by decide) hk1 hFc hP1 hD1
        have hP : va_P (dC, dI) vwCl [] H1 := hP
        have hD : va_D A [] := hD
        generalize H1 = H at hP hS ⊢
        refine lv_ldc2 (v := -1) hx hb hown (hts _ kwX2_numberIn_15) dX2_numberIn_26 ?_
        refine lv_lxor hx hb dX2_numberIn_29 ?_
        refine lv_land hx hb dX2_numberIn_30 ?_
        refine lv_topl (fun w2_5 ew2_5 => ?_)
        have hq := hq w2_5 ew2_5
        refine lv_lstore_n (lv' := [(2, .long w2_5), (4, .int v4_2), (5, .int v5_3)]) hx hb dX2_numberIn_31 rfl hl (by decide) rfl (fun ls hl => ?_)
        refine lv_iinc (v := (v4_2 + (1 : Int32))) (lv' := [(4, .int (v4_2 + (1 : Int32))), (2, .long w2_5), (5, .int v5_3)]) hx hb dX2_numberIn_32 hl (k := 1) rfl rfl (by decide) rfl (fun ls hl => ?_)
        refine lv_iinc (v := (v5_3 + (1 : Int32))) (lv' := [(5, .int (v5_3 + (1 : Int32))), (4, .int (v4_2 + (1 : Int32))), (2, .long w2_5)]) hx hb dX2_numberIn_35 hl (k := 2) rfl rfl (by decide) rfl (fun ls hl => ?_)
        refine lv_goto (tgt := 8) hx hb dX2_numberIn_38 (by decide) ?_
        exact hq _ _ _ hP hD hS (lv_sub hl [2, 1, 0] rfl))
  exact hq _ _ _ hP hD hS (lv_sub hl [2, 1, 0] rfl)
set_option maxRecDepth 20000 in
theorem kwX2_largestIn_15 : Cond.constantLong RX2 15 (-1) ∈ wsX2_largestIn := by decide +kernel
set_option maxRecDepth 20000 in
theorem kwX2_largestIn_23 : Cond.methodLink RX2 23 Lib.Math.max.name ∈ wsX2_largestIn := by decide +kernel
set_option maxRecDepth 20000 in
theorem kwX2_largestIn_stat : Cond.static Lib.Math.max.name ∈ wsX2_largestIn := by decide +kernel
set_option maxRecDepth 20000 in
theorem kwX2_largestIn_math : Cond.initialized "java/lang/Math" ∈ wsX2_largestIn := by decide +kernel
set_option maxRecDepth 20000 in
theorem kwX2_largestIn_mcode : Cond.code Lib.Math.max.name Lib.Math.max.code 2 (some .int) ∈ wsX2_largestIn := by decide +kernel
set_option maxHeartbeats 4000000 in
set_option maxRecDepth 100000 in
theorem c_X2_largestIn (l : Launch) (dC : Nat → ClassId) (dI : Nat → Nat → Nat) (cI cC cS : ClassId) (sz : Nat) (x0 : Int64) {post : Int32 → Prop} (hq : wp_X2_largestIn x0 post) : Met l yX2_largestIn wsX2_largestIn ({ frames := 2, cells := 0, slots := 0, locals := 49 } : Room) (gn_Pre (dC, dI) cI cC cS [.long x0] sz []) (va_Qi (fun (r : Int32) (u : Unit) => post r) (fun (u : Unit) t => va_P (dC, dI) vwCl [] t.heap ∧ va_K (dC, dI) vwCl (gn_tys cI cC cS) t ∧ va_D (va_A [] sz) []) (va_A [] sz)) 0 0 (va_A [] sz) := by
  unfold wp_X2_largestIn at hq
  refine Met.ofW (cc := cX2_largestIn) (maxL := 8) (ret := (some .int)) (by decide) rfl ?_
  intro p e s m args below meth c s₁ B hml hv
  obtain ⟨rfl, hsz, hP, hK, hN, hD0⟩ := hv
  have hx := B.exec
  have hb := B.bytes
  have hr := B.returns
  have hts := atoms_spec (ws := wsX2_largestIn) B.pre
  have hown : s.vm.findClass RX2 = some m.cls := findClass_of_methodNamed B.named
  have hlocks := B.notSynchronized
  subst hsz
  have hD := hD0.self (sz := s.heap.size)
  generalize hAe : va_A [] s.heap.size = A at hD ⊢
  have hA : ∀ q : Nat, s.heap.size ≤ q → A q := fun q h => by rw [← hAe]; exact Or.inr h
  have hS : va_S A s.heap s.heap [] := va_S.rf
  have hl := lv_entry ([.long x0] : List Value) (n := 8) (Nat.le_of_ble_eq_true rfl)
  rw [lg_entry_eq]
  generalize (lg_sl ([.long x0] : List Value) ++ List.replicate (8 - (lg_sl ([.long x0] : List Value)).length) Slot.unset).toArray = ls at hl ⊢
  have hl : lv_has ls 8 [(0, .long x0)] := hl
  refine gn_Q (hret := fun Q => ∀ (pc : Nat) (ls : Array Slot) (H : Heap) (locs : List Loc) (r : Int32) , decode cX2_largestIn pc = .ok (.ireturn, 1) → va_P (dC, dI) vwCl [] H → va_D A [] → va_S A s.heap H locs → post r → W p l e ({ frames := 2, cells := 0, slots := 0, locals := 49 } : Room) s m ([.long x0] : List Value).toArray below meth c H locs 0 0 Q (F0 m pc ls [.int r])) (fun Q hret => ?_) ?_
  rotate_left
  · intro pc ls H locs r hdg hP hD hS hpost
    exact W.iret (v := r) hx hb hr (fun t ht hW => ⟨⟨r, (), rfl, hpost, by rw [ht]; exact hP, va_K.moved hW.alike hK, hD⟩, hS.F ht⟩) hS.2.2 hdg
  refine lv_lload_n hx hb dX2_largestIn_0 rfl (lv_at hl 0 rfl) ?_
  refine lv_lstore_n (lv' := [(2, .long x0), (0, .long x0)]) hx hb dX2_largestIn_1 rfl hl (by decide) rfl (fun ls hl => ?_)
  refine lv_iconst (v := 0) hx hb dX2_largestIn_2 (by decide) ?_
  refine lv_istore (lv' := [(4, .int (0 : Int32)), (2, .long x0), (0, .long x0)]) hx hb dX2_largestIn_3 hl (by decide) rfl (fun ls hl => ?_)
  refine lv_iconst (v := 0) hx hb dX2_largestIn_5 (by decide) ?_
  refine lv_istore (lv' := [(5, .int (0 : Int32)), (4, .int (0 : Int32)), (2, .long x0), (0, .long x0)]) hx hb dX2_largestIn_6 hl (by decide) rfl (fun ls hl => ?_)
  have hq := hq (fun (v2_1 : Int64) (v4_2 : Int32) (v5_3 : Int32) => ∀ (H : Heap) (locs : List Loc) (ls : Array Slot), va_P (dC, dI) vwCl [] H → va_D A [] → va_S A s.heap H locs → lv_has ls 8 [(2, .long v2_1), (4, .int v4_2), (5, .int v5_3)] → W p l e ({ frames := 2, cells := 0, slots := 0, locals := 49 } : Room) s m ([.long x0] : List Value).toArray below meth c H locs 0 0 Q (F0 m 8 ls [])) (by
    intro v2_1 v4_2 v5_3 hq H locs ls hP hD hS hl
    refine lv_iload hx hb dX2_largestIn_8 (lv_at hl 2 rfl) ?_
    refine lv_bipush (v := 64) hx hb dX2_largestIn_10 (by decide) ?_
    have hq := hq (∀ (H : Heap) (locs : List Loc) (ls : Array Slot), va_P (dC, dI) vwCl [] H → va_D A [] → va_S A s.heap H locs → lv_has ls 8 [(4, .int v4_2)] → W p l e ({ frames := 2, cells := 0, slots := 0, locals := 49 } : Room) s m ([.long x0] : List Value).toArray below meth c H locs 0 0 Q (F0 m 54 ls [])) (by
      intro  hq H locs ls hP hD hS hl
      refine lv_iload hx hb dX2_largestIn_54 (lv_at hl 0 rfl) ?_
      exact hret _ _ _ _ _ dX2_largestIn_56 hP hD hS hq)
    refine lv_icmp_ge (tgt := 54) hx hb dX2_largestIn_12 (by decide) (fun hc => ?_) (fun hc => ?_)
    · have hq := hq.1 hc
      exact hq _ _ _ hP hD hS (lv_sub hl [1] rfl)
    · have hq := hq.2 hc
      refine lv_lload_n hx hb dX2_largestIn_15 rfl (lv_at hl 0 rfl) ?_
      refine lv_lconst (v := 0) hx hb dX2_largestIn_16 (by decide) ?_
      refine W.lcmp hx hb dX2_largestIn_17 ?_
      refine lv_if_eq (tgt := 54) hx hb dX2_largestIn_18 (by decide) (fun hc => ?_) (fun hc => ?_)
      · have hq := hq.1 hc
        exact hq _ _ _ hP hD hS (lv_sub hl [1] rfl)
      · have hq := hq.2 hc
        refine lv_lload_n hx hb dX2_largestIn_21 rfl (lv_at hl 0 rfl) ?_
        have hPc := hP.sub (ws' := []) [] rfl
        have hDc := hD.sub (ws' := []) [] (by decide) rfl
        have hFc := va_free (wc := []) hD hS hA [] rfl
        refine va_calll (va_runS (As := [.long v2_1]) (rest := []) ⟨hx, hb, hml, hown, hts⟩ (c_X2_firstOf l dC dI cI cC cS _ v2_1 hq) (va_cwS 1 hts gX2_largestIn_X2_firstOf rfl rfl rfl (by decide +kernel) ⟨Nat.le_of_ble_eq_true rfl, Nat.le_of_ble_eq_true rfl⟩) (gn_preS hPc hK hN hDc) rfl rfl hl.1 rfl (lv_room (Nat.le_of_ble_eq_true rfl)) dX2_largestIn_22 ⟨Nat.zero_le _, Nat.zero_le _⟩) hS (fun q _ h => hFc q h) hFc (fun r_4 u t H1 locs ht hvm hq hB hz1 hk1 hS => ?_)
        obtain ⟨hP1, hK1, hD1⟩ := hB
        rw [ht] at hP1
        try dsimp only at hq
        obtain ⟨hP, hD⟩ := va_join (wr := []) (w1 := []) hP hD [] [] rfl rfl (by decide) (by decide) hk1 hFc hP1 hD1
        have hP : va_P (dC, dI) vwCl [] H1 := hP
        have hD : va_D A [] := hD
        generalize H1 = H at hP hS ⊢
        refine lv_lstore (lv' := [(6, .long r_4), (2, .long v2_1), (4, .int v4_2), (5, .int v5_3)]) hx hb dX2_largestIn_25 hl (by decide) rfl (fun ls hl => ?_)
        refine lv_lload_n hx hb dX2_largestIn_27 rfl (lv_at hl 1 rfl) ?_
        refine lv_lload hx hb dX2_largestIn_28 (lv_at hl 0 rfl) ?_
        refine lv_ldc2 (v := -1) hx hb hown (hts _ kwX2_largestIn_15) dX2_largestIn_30 ?_
        refine lv_lxor hx hb dX2_largestIn_33 ?_
        refine lv_land hx hb dX2_largestIn_34 ?_
        refine lv_topl (fun w2_5 ew2_5 => ?_)
        have hq := hq w2_5 ew2_5
        refine lv_lstore_n (lv' := [(2, .long w2_5), (6, .long r_4), (4, .int v4_2), (5, .int v5_3)]) hx hb dX2_largestIn_35 rfl hl (by decide) rfl (fun ls hl => ?_)
        refine lv_iload hx hb dX2_largestIn_36 (lv_at hl 2 rfl) ?_
        refine lv_lload hx hb dX2_largestIn_38 (lv_at hl 1 rfl) ?_
        have hPc := hP.sub (ws' := []) [] rfl
        have hDc := hD.sub (ws' := []) [] (by decide) rfl
        have hFc := va_free (wc := []) hD hS hA [] rfl
        refine va_calli (va_runS (As := [.long r_4]) (rest := [.int v4_2]) ⟨hx, hb, hml, hown, hts⟩ (c_J13_bitCount_95d88 l dC dI cI cC cS _ r_4 hq) (va_cwS 1 hts gX2_largestIn_J13_bitCount_95d88 rfl rfl rfl (by decide +kernel) ⟨Nat.le_of_ble_eq_true rfl, Nat.le_of_ble_eq_true rfl⟩) (gn_preS hPc hK hN hDc) rfl rfl hl.1 rfl (lv_room (Nat.le_of_ble_eq_true rfl)) dX2_largestIn_40 ⟨Nat.zero_le _, Nat.zero_le _⟩) hS (fun q _ h => hFc q h) hFc (fun r_6 u t H1 locs ht hvm hq hB hz1 hk1 hS => ?_)
        obtain ⟨hP1, hK1, hD1⟩ := hB
        rw [ht] at hP1
        try dsimp only at hq
        obtain ⟨hP, hD⟩ := va_join (wr := []) (w1 := []) hP hD [] [] rfl rfl (by decide) (by decide) hk1 hFc hP1 hD1
        have hP : va_P (dC, dI) vwCl [] H1 := hP
        have hD : va_D A [] := hD
        generalize H1 = H at hP hS ⊢
        refine va_mmax hx hb (by rw [hml]; exact hl.1.symm) hown (hts _ kwX2_largestIn_23) (hts _ kwX2_largestIn_stat) (hts _ kwX2_largestIn_math) (hts _ kwX2_largestIn_mcode) (Nat.le_of_ble_eq_true rfl) (Nat.le_of_ble_eq_true rfl) (Nat.le_of_ble_eq_true rfl) (Nat.le_of_ble_eq_true rfl) dX2_largestIn_43 ?_
        refine lv_topi (fun w4_7 ew4_7 => ?_)
        have hq := hq w4_7 ew4_7
        refine lv_istore (lv' := [(4, .int w4_7), (2, .long w2_5), (6, .long r_4), (5, .int v5_3)]) hx hb dX2_largestIn_46 hl (by decide) rfl (fun ls hl => ?_)
        refine lv_iinc (v := (v5_3 + (1 : Int32))) (lv' := [(5, .int (v5_3 + (1 : Int32))), (4, .int w4_7), (2, .long w2_5), (6, .long r_4)]) hx hb dX2_largestIn_48 hl (k := 3) rfl rfl (by decide) rfl (fun ls hl => ?_)
        refine lv_goto (tgt := 8) hx hb dX2_largestIn_51 (by decide) ?_
        exact hq _ _ _ hP hD hS (lv_sub hl [2, 1, 0] rfl))
  exact hq _ _ _ hP hD hS (lv_sub hl [2, 1, 0] rfl)
