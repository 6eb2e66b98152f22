def wp_J13_bitCount_95d88 (x0 : Int64) (post : Int32 → Prop) : Prop :=
  ∀ w0_1 : Int64, w0_1 = (x0 - ((((x0).toUInt64 >>> (((1 : Int32)).toInt64.toUInt64 &&& Int64.toUInt64 63)).toInt64) &&& (6148914691236517205 : Int64))) → ∀ w0_2 : Int64, w0_2 = ((w0_1 &&& (3689348814741910323 : Int64)) + ((((w0_1).toUInt64 >>> (((2 : Int32)).toInt64.toUInt64 &&& Int64.toUInt64 63)).toInt64) &&& (3689348814741910323 : Int64))) → ∀ w0_3 : Int64, w0_3 = ((w0_2 + (((w0_2).toUInt64 >>> (((4 : Int32)).toInt64.toUInt64 &&& Int64.toUInt64 63)).toInt64)) &&& (1085102592571150095 : Int64)) → ∀ w0_4 : Int64, w0_4 = (w0_3 + (((w0_3).toUInt64 >>> (((8 : Int32)).toInt64.toUInt64 &&& Int64.toUInt64 63)).toInt64)) → ∀ w0_5 : Int64, w0_5 = (w0_4 + (((w0_4).toUInt64 >>> (((16 : Int32)).toInt64.toUInt64 &&& Int64.toUInt64 63)).toInt64)) → ∀ w0_6 : Int64, w0_6 = (w0_5 + (((w0_5).toUInt64 >>> (((32 : Int32)).toInt64.toUInt64 &&& Int64.toUInt64 63)).toInt64)) → post (((w0_6).toInt32) &&& (127 : Int32))
def wp_X0_isAcross (x0 : Int32) (post : Int32 → Prop) : Prop :=
  (((2 : Int32) ≤ x0) → ((0 : Int32) = 0 ∨ (0 : Int32) = 1) ∧ (post (0 : Int32))) ∧ ((¬ (2 : Int32) ≤ x0) → ((1 : Int32) = 0 ∨ (1 : Int32) = 1) ∧ (post (1 : Int32)))
def wp_X0_movesFirstHalf (x0 : Int32) (post : Int32 → Prop) : Prop :=
  ((¬ (x0 - x0 / (2 : Int32) * (2 : Int32)) = 0) → ((0 : Int32) = 0 ∨ (0 : Int32) = 1) ∧ (post (0 : Int32))) ∧ (((x0 - x0 / (2 : Int32) * (2 : Int32)) = 0) → ((1 : Int32) = 0 ∨ (1 : Int32) = 1) ∧ (post (1 : Int32)))
def wp_X0_columns (mac : Int32) (post : Int32 → Prop) : Prop :=
  post ((8 : Int32) >>> (mac &&& (31 : Int32)))
def wp_X0_rows (made : Int32) (mac : Int32) (post : Int32 → Prop) : Prop :=
  post ((8 : Int32) >>> ((made - mac) &&& (31 : Int32)))
def wp_X0_layers (made : Int32) (post : Int32 → Prop) : Prop :=
  post ((1 : Int32) <<< (made &&& (31 : Int32)))
def wp_X0_hasFold (made : Int32) (x1 : Int32) (post : Int32 → Prop) : Prop :=
  ∀ (P16 : Prop), ((((0 : Int32) = 0 ∨ (0 : Int32) = 1) ∧ (post (0 : Int32))) → P16 ) → ((x1 < 0) → P16) ∧ ((¬ x1 < 0) → ((made ≤ x1) → P16) ∧ ((¬ made ≤ x1) → ((1 : Int32) = 0 ∨ (1 : Int32) = 1) ∧ (post (1 : Int32))))
def wp_X0_kindOf (ks : Nat → Int32) (x1 : Int32) (post : Int32 → Prop) : Prop :=
  ∀ (P22 : Prop), ((post (0 : Int32)) → P22 ) → ((x1 < 0) → P22) ∧ ((¬ x1 < 0) → (((6 : Int32) ≤ x1) → P22) ∧ ((¬ (6 : Int32) ≤ x1) → vp_in x1 6 ∧ (post (ks (x1).toNatClampNeg))))
def wp_X0_hasField (made : Int32) (mac : Int32) (x1 : Int32) (x2 : Int32) (post : Int32 → Prop) : Prop :=
  ∀ (P28 : Prop), ((((0 : Int32) = 0 ∨ (0 : Int32) = 1) ∧ (post (0 : Int32))) → P28 ) → ((x1 < 0) → P28) ∧ ((¬ x1 < 0) → wp_X0_columns mac (fun r_1 => ((r_1 ≤ x1) → P28) ∧ ((¬ r_1 ≤ x1) → ((x2 < 0) → P28) ∧ ((¬ x2 < 0) → wp_X0_rows made mac (fun r_2 => ((r_2 ≤ x2) → P28) ∧ ((¬ r_2 ≤ x2) → ((1 : Int32) = 0 ∨ (1 : Int32) = 1) ∧ (post (1 : Int32))))))))
def wp_X0_hasLayer (made : Int32) (mac : Int32) (x1 : Int32) (x2 : Int32) (x3 : Int32) (post : Int32 → Prop) : Prop :=
  wp_X0_hasField made mac x1 x2 (fun r_1 => ∀ (P25 : Prop), ((((0 : Int32) = 0 ∨ (0 : Int32) = 1) ∧ (post (0 : Int32))) → P25 ) → ((r_1 = 0) → P25) ∧ ((¬ r_1 = 0) → ((x3 < 0) → P25) ∧ ((¬ x3 < 0) → wp_X0_layers made (fun r_2 => ((r_2 ≤ x3) → P25) ∧ ((¬ r_2 ≤ x3) → ((1 : Int32) = 0 ∨ (1 : Int32) = 1) ∧ (post (1 : Int32)))))))
def wp_X0_placeAhead (x0 : Int32) (x1 : Int32) (x2 : Int32) (x3 : Int32) (post : Int32 → Prop) : Prop :=
  ∀ (P11 : Int32 → Prop), (∀ (t_1 : Int32), (((x3 = 0) → post t_1) ∧ ((¬ x3 = 0) → post ((((2 : Int32) * x1) - (1 : Int32)) - t_1))) → P11 t_1) → ((x2 = 0) → P11 x0) ∧ ((¬ x2 = 0) → P11 (x1 + x0))
def wp_X0_placeAfter (x0 : Int32) (x1 : Int32) (x2 : Int32) (x3 : Int32) (post : Int32 → Prop) : Prop :=
  ∀ (P15 : Int32 → Prop), (∀ (t_1 : Int32), (((x2 = 0) → post t_1) ∧ ((¬ x2 = 0) → post (t_1 - x1))) → P15 t_1) → ((x3 = 0) → P15 x0) ∧ ((¬ x3 = 0) → P15 ((((2 : Int32) * x1) - (1 : Int32)) - x0))
def wp_X0_takeAllBack (made : Int32) (mac : Int32) (post : Int32 → Int32 → Prop) : Prop :=
  post (0 : Int32) (0 : Int32)
def wp_X0_addFold (made : Int32) (mac : Int32) (ks : Nat → Int32) (x1 : Int32) (post : Int32 → Int32 → (Nat → Int32) → Prop) : Prop :=
  ((made < 0) → post made mac ks) ∧ ((¬ made < 0) → (((6 : Int32) ≤ made) → post made mac ks) ∧ ((¬ (6 : Int32) ≤ made) → vp_in made 6 ∧ (wp_X0_isAcross x1 (fun r_1 => ∀ (P56 : Int32 → Prop), (∀ (t_2 : Int32), (post (made + (1 : Int32)) (mac + t_2) (upd ks (made).toNatClampNeg x1)) → P56 t_2) → ((r_1 = 0) → P56 (0 : Int32)) ∧ ((¬ r_1 = 0) → P56 (1 : Int32))))))
def wp_X0_takeLatestBack (made : Int32) (mac : Int32) (ks : Nat → Int32) (post : Int32 → Int32 → Int32 → Prop) : Prop :=
  wp_X0_kindOf ks (made - (1 : Int32)) (fun r_1 => wp_X0_isAcross r_1 (fun r_2 => ∀ (P38 : Int32 → Prop), (∀ (t_3 : Int32), (post r_1 (made - (1 : Int32)) (mac - t_3)) → P38 t_3) → ((r_2 = 0) → P38 (0 : Int32)) ∧ ((¬ r_2 = 0) → P38 (1 : Int32))))
def wp_X0_foldAnew (made : Int32) (mac : Int32) (ks : Nat → Int32) (x1 : Int32) (x2 : Int32) (post : Int32 → Int32 → (Nat → Int32) → Prop) : Prop :=
  wp_X0_takeAllBack made mac (fun made__1 mac__2 => ∀ (P6 : Int32 → Int32 → Int32 → (Nat → Int32) → Prop), (∀ (v3_3 : Int32) (made__4 : Int32) (mac__5 : Int32) (ks__6 : Nat → Int32), (((x1 ≤ v3_3) → ∀ (P24 : Int32 → Int32 → Int32 → (Nat → Int32) → Prop), (∀ (v3_7 : Int32) (made__8 : Int32) (mac__9 : Int32) (ks__10 : Nat → Int32), (((x2 ≤ v3_7) → post made__8 mac__9 ks__10) ∧ ((¬ x2 ≤ v3_7) → wp_X0_addFold made__8 mac__9 ks__10 (3 : Int32) (fun made__11 mac__12 ks__13 => P24 (v3_7 + (1 : Int32)) made__11 mac__12 ks__13))) → P24 v3_7 made__8 mac__9 ks__10) → P24 (0 : Int32) made__4 mac__5 ks__6) ∧ ((¬ x1 ≤ v3_3) → wp_X0_addFold made__4 mac__5 ks__6 (1 : Int32) (fun made__14 mac__15 ks__16 => P6 (v3_3 + (1 : Int32)) made__14 mac__15 ks__16))) → P6 v3_3 made__4 mac__5 ks__6) → P6 (0 : Int32) made__1 mac__2 ks)
def wp_X0_becomeLike (made : Int32) (mac : Int32) (ks : Nat → Int32) (omade : Int32) (omac : Int32) (oks : Nat → Int32) (post : Int32 → Int32 → (Nat → Int32) → Prop) : Prop :=
  post omade omac (va_cpy oks ks 0 0 6)
def wp_X0_upperSide (made : Int32) (mac : Int32) (ks : Nat → Int32) (x1 : Int32) (x2 : Int32) (x3 : Int32) (post : Int32 → Prop) : Prop :=
  wp_X0_columns mac (fun r_1 => wp_X0_rows made mac (fun r_2 => wp_X0_layers made (fun r_3 => ∀ w11_4 : Int32, w11_4 = (made - (1 : Int32)) → ∀ (P38 : Int32 → Int32 → Int32 → Int32 → Int32 → Int32 → Int32 → Int32 → Prop), (∀ (v4_5 : Int32) (v5_6 : Int32) (v6_7 : Int32) (v7_8 : Int32) (v8_9 : Int32) (v9_10 : Int32) (v10_11 : Int32) (v11_12 : Int32), (((v11_12 < 0) → post (((2 : Int32) * (((8 : Int32) * v5_6) + v4_5)) + v7_8)) ∧ ((¬ v11_12 < 0) → wp_X0_kindOf ks v11_12 (fun r_13 => wp_X0_movesFirstHalf r_13 (fun r_14 => ∀ w10_15 : Int32, w10_15 = (v10_11 / (2 : Int32)) → ∀ (P76 : Int32 → Prop), (∀ (t_16 : Int32), (wp_X0_isAcross r_13 (fun r_17 => ∀ (P127 : Int32 → Int32 → Int32 → Int32 → Prop), (∀ (v4_18 : Int32) (v5_19 : Int32) (v8_20 : Int32) (v9_21 : Int32), (∀ (P147 : Int32 → Prop), (∀ (t_22 : Int32), (∀ (P163 : Int32 → Prop), (∀ (t_23 : Int32), (P38 v4_18 v5_19 t_22 t_23 v8_20 v9_21 w10_15 (v11_12 + (-1 : Int32))) → P163 t_23) → ((t_16 = 0) → P163 v7_8) ∧ ((¬ t_16 = 0) → P163 ((1 : Int32) - v7_8))) → P147 t_22) → ((t_16 = 0) → P147 (v6_7 - w10_15)) ∧ ((¬ t_16 = 0) → P147 ((w10_15 - (1 : Int32)) - v6_7))) → P127 v4_18 v5_19 v8_20 v9_21) → ((r_17 = 0) → wp_X0_placeAhead v5_6 v9_10 r_14 t_16 (fun r_24 => ∀ w9_25 : Int32, w9_25 = ((2 : Int32) * v9_10) → P127 v4_5 r_24 v8_9 w9_25)) ∧ ((¬ r_17 = 0) → wp_X0_placeAhead v4_5 v8_9 r_14 t_16 (fun r_26 => ∀ w8_27 : Int32, w8_27 = ((2 : Int32) * v8_9) → P127 r_26 v5_6 w8_27 v9_10)))) → P76 t_16) → ((w10_15 ≤ v6_7) → P76 (0 : Int32)) ∧ ((¬ w10_15 ≤ v6_7) → P76 (1 : Int32)))))) → P38 v4_5 v5_6 v6_7 v7_8 v8_9 v9_10 v10_11 v11_12) → P38 x1 x2 x3 (0 : Int32) r_1 r_2 r_3 w11_4)))
def wp_X0_placeOf (made : Int32) (ks : Nat → Int32) (x1 : Int32) (x2 : Int32) (post : Int32 → Prop) : Prop :=
  ∀ w3_1 : Int32, w3_1 = (x1 - x1 / (8 : Int32) * (8 : Int32)) → ∀ w4_2 : Int32, w4_2 = (x1 / (8 : Int32)) → ∀ (P28 : Int32 → Int32 → Int32 → Int32 → Int32 → Int32 → Int32 → Prop), (∀ (v3_3 : Int32) (v4_4 : Int32) (v5_5 : Int32) (v6_6 : Int32) (v7_7 : Int32) (v8_8 : Int32) (v9_9 : Int32), (((made ≤ v9_9) → ((¬ x2 = 0) → ((¬ x2 = (1 : Int32)) → ((¬ x2 = (2 : Int32)) → post v6_6) ∧ ((x2 = (2 : Int32)) → post v5_5)) ∧ ((x2 = (1 : Int32)) → post v4_4)) ∧ ((x2 = 0) → post v3_3)) ∧ ((¬ made ≤ v9_9) → wp_X0_kindOf ks v9_9 (fun r_10 => wp_X0_isAcross r_10 (fun r_11 => ∀ (P64 : Int32 → Prop), (∀ (t_12 : Int32), (∀ w12_13 : Int32, w12_13 = (t_12 / (2 : Int32)) → wp_X0_movesFirstHalf r_10 (fun r_14 => ∀ (P86 : Int32 → Prop), (∀ (t_15 : Int32), (∀ (P96 : Int32 → Prop), (∀ (t_16 : Int32), (∀ (P110 : Int32 → Prop), (∀ (t_17 : Int32), (∀ (P152 : Int32 → Int32 → Int32 → Int32 → Prop), (∀ (v3_18 : Int32) (v4_19 : Int32) (v7_20 : Int32) (v8_21 : Int32), (∀ w16_22 : Int32, w16_22 = ((1 : Int32) <<< (v9_9 &&& (31 : Int32))) → ∀ (P178 : Int32 → Prop), (∀ (t_23 : Int32), (∀ (P194 : Int32 → Prop), (∀ (t_24 : Int32), (P28 v3_18 v4_19 t_23 t_24 v7_20 v8_21 (v9_9 + (1 : Int32))) → P194 t_24) → ((t_17 = 0) → P194 v6_6) ∧ ((¬ t_17 = 0) → P194 ((1 : Int32) - v6_6))) → P178 t_23) → ((t_17 = 0) → P178 (w16_22 + v5_5)) ∧ ((¬ t_17 = 0) → P178 ((w16_22 - (1 : Int32)) - v5_5))) → P152 v3_18 v4_19 v7_20 v8_21) → ((r_11 = 0) → wp_X0_placeAfter v4_4 w12_13 r_14 t_17 (fun r_25 => P152 v3_3 r_25 v7_7 w12_13)) ∧ ((¬ r_11 = 0) → wp_X0_placeAfter v3_3 w12_13 r_14 t_17 (fun r_26 => P152 r_26 v4_4 w12_13 v8_8))) → P110 t_17) → ((¬ t_16 = r_14) → P110 (0 : Int32)) ∧ ((t_16 = r_14) → P110 (1 : Int32))) → P96 t_16) → ((w12_13 ≤ t_15) → P96 (0 : Int32)) ∧ ((¬ w12_13 ≤ t_15) → P96 (1 : Int32))) → P86 t_15) → ((r_11 = 0) → P86 v4_4) ∧ ((¬ r_11 = 0) → P86 v3_3))) → P64 t_12) → ((r_11 = 0) → P64 v8_8) ∧ ((¬ r_11 = 0) → P64 v7_7))))) → P28 v3_3 v4_4 v5_5 v6_6 v7_7 v8_8 v9_9) → P28 w3_1 w4_2 (0 : Int32) (0 : Int32) (8 : Int32) (8 : Int32) (0 : Int32)
set_option maxRecDepth 20000 in
theorem kwJ13_bitCount_95d88_314 : Cond.constantLong RJ13 314 (6148914691236517205) ∈ wsJ13_bitCount_95d88 := by decide +kernel
set_option maxRecDepth 20000 in
theorem kwJ13_bitCount_95d88_316 : Cond.constantLong RJ13 316 (3689348814741910323) ∈ wsJ13_bitCount_95d88 := by decide +kernel
set_option maxRecDepth 20000 in
theorem kwJ13_bitCount_95d88_318 : Cond.constantLong RJ13 318 (1085102592571150095) ∈ wsJ13_bitCount_95d88 := by decide +kernel
set_option maxHeartbeats 4000000 in
set_option maxRecDepth 100000 in
theorem c_J13_bitCount_95d88 (l : Launch) (dC : Nat → ClassId) (dI : Nat → Nat → Nat) (cI cC cS : ClassId) (sz : Nat) (x0 : Int64) {post : Int32 → Prop} (hq : wp_J13_bitCount_95d88 x0 post) : Met l yJ13_bitCount_95d88 wsJ13_bitCount_95d88 ({ frames := 0, cells := 0, slots := 0, locals := 0 } : Room) (gn_Pre (dC, dI) cI cC cS [.long x0] sz []) (va_Qi (fun (r : Int32) (u : Unit) => post r) (fun (u : Unit) t => va_P (dC, dI) vwCl [] t.heap ∧ va_K (dC, dI) vwCl (gn_tys cI cC cS) t ∧ va_D (va_A [] sz) []) (va_A [] sz)) 0 0 (va_A [] sz) := by
  unfold wp_J13_bitCount_95d88 at hq
  refine Met.ofW (cc := cJ13_bitCount_95d88) (maxL := 2) (ret := (some .int)) (by decide) rfl ?_
  intro p e s m args below meth c s₁ B hml hv
  obtain ⟨rfl, hsz, hP, hK, hN, hD0⟩ := hv
  have hx := B.exec
  have hb := B.bytes
  have hr := B.returns
  have hts := atoms_spec (ws := wsJ13_bitCount_95d88) B.pre
  have hown : s.vm.findClass RJ13 = some m.cls := findClass_of_methodNamed B.named
  have hlocks := B.notSynchronized
  subst hsz
  have hD := hD0.self (sz := s.heap.size)
  generalize hAe : va_A [] s.heap.size = A at hD ⊢
  have hA : ∀ q : Nat, s.heap.size ≤ q → A q := fun q h => by rw [← hAe]; exact Or.inr h
  have hS : va_S A s.heap s.heap [] := va_S.rf
  have hl := lv_entry ([.long x0] : List Value) (n := 2) (Nat.le_of_ble_eq_true rfl)
  rw [lg_entry_eq]
  generalize (lg_sl ([.long x0] : List Value) ++ List.replicate (2 - (lg_sl ([.long x0] : List Value)).length) Slot.unset).toArray = ls at hl ⊢
  have hl : lv_has ls 2 [(0, .long x0)] := hl
  refine gn_Q (hret := fun Q => ∀ (pc : Nat) (ls : Array Slot) (H : Heap) (locs : List Loc) (r : Int32) , decode cJ13_bitCount_95d88 pc = .ok (.ireturn, 1) → va_P (dC, dI) vwCl [] H → va_D A [] → va_S A s.heap H locs → post r → W p l e ({ frames := 0, cells := 0, slots := 0, locals := 0 } : Room) s m ([.long x0] : List Value).toArray below meth c H locs 0 0 Q (F0 m pc ls [.int r])) (fun Q hret => ?_) ?_
  rotate_left
  · intro pc ls H locs r hdg hP hD hS hpost
    exact W.iret (v := r) hx hb hr (fun t ht hW => ⟨⟨r, (), rfl, hpost, by rw [ht]; exact hP, va_K.moved hW.alike hK, hD⟩, hS.F ht⟩) hS.2.2 hdg
  refine lv_lload_n hx hb dJ13_bitCount_95d88_0 rfl (lv_at hl 0 rfl) ?_
  refine lv_lload_n hx hb dJ13_bitCount_95d88_1 rfl (lv_at hl 0 rfl) ?_
  refine lv_iconst (v := 1) hx hb dJ13_bitCount_95d88_2 (by decide) ?_
  refine lv_lushr hx hb dJ13_bitCount_95d88_3 rfl ?_
  refine lv_ldc2 (v := 6148914691236517205) hx hb hown (hts _ kwJ13_bitCount_95d88_314) dJ13_bitCount_95d88_4 ?_
  refine lv_land hx hb dJ13_bitCount_95d88_7 ?_
  refine lv_lsub hx hb dJ13_bitCount_95d88_8 ?_
  refine lv_topl (fun w0_1 ew0_1 => ?_)
  have hq := hq w0_1 ew0_1
  refine lv_lstore_n (lv' := [(0, .long w0_1)]) hx hb dJ13_bitCount_95d88_9 rfl hl (by decide) rfl (fun ls hl => ?_)
  refine lv_lload_n hx hb dJ13_bitCount_95d88_10 rfl (lv_at hl 0 rfl) ?_
  refine lv_ldc2 (v := 3689348814741910323) hx hb hown (hts _ kwJ13_bitCount_95d88_316) dJ13_bitCount_95d88_11 ?_
  refine lv_land hx hb dJ13_bitCount_95d88_14 ?_
  refine lv_lload_n hx hb dJ13_bitCount_95d88_15 rfl (lv_at hl 0 rfl) ?_
  refine lv_iconst (v := 2) hx hb dJ13_bitCount_95d88_16 (by decide) ?_
  refine lv_lushr hx hb dJ13_bitCount_95d88_17 rfl ?_
  refine lv_ldc2 (v := 3689348814741910323) hx hb hown (hts _ kwJ13_bitCount_95d88_316) dJ13_bitCount_95d88_18 ?_
  refine lv_land hx hb dJ13_bitCount_95d88_21 ?_
  refine lv_ladd hx hb dJ13_bitCount_95d88_22 ?_
  refine lv_topl (fun w0_2 ew0_2 => ?_)
  have hq := hq w0_2 ew0_2
  refine lv_lstore_n (lv' := [(0, .long w0_2)]) hx hb dJ13_bitCount_95d88_23 rfl hl (by decide) rfl (fun ls hl => ?_)
  refine lv_lload_n hx hb dJ13_bitCount_95d88_24 rfl (lv_at hl 0 rfl) ?_
  refine lv_lload_n hx hb dJ13_bitCount_95d88_25 rfl (lv_at hl 0 rfl) ?_
  refine lv_iconst (v := 4) hx hb dJ13_bitCount_95d88_26 (by decide) ?_
  refine lv_lushr hx hb dJ13_bitCount_95d88_27 rfl ?_
  refine lv_ladd hx hb dJ13_bitCount_95d88_28 ?_
  refine lv_ldc2 (v := 1085102592571150095) hx hb hown (hts _ kwJ13_bitCount_95d88_318) dJ13_bitCount_95d88_29 ?_
  refine lv_land hx hb dJ13_bitCount_95d88_32 ?_
  refine lv_topl (fun w0_3 ew0_3 => ?_)
  have hq := hq w0_3 ew0_3
  refine lv_lstore_n (lv' := [(0, .long w0_3)]) hx hb dJ13_bitCount_95d88_33 rfl hl (by decide) rfl (fun ls hl => ?_)
  refine lv_lload_n hx hb dJ13_bitCount_95d88_34 rfl (lv_at hl 0 rfl) ?_
  refine lv_lload_n hx hb dJ13_bitCount_95d88_35 rfl (lv_at hl 0 rfl) ?_
  refine lv_bipush (v := 8) hx hb dJ13_bitCount_95d88_36 (by decide) ?_
  refine lv_lushr hx hb dJ13_bitCount_95d88_38 rfl ?_
  refine lv_ladd hx hb dJ13_bitCount_95d88_39 ?_
  refine lv_topl (fun w0_4 ew0_4 => ?_)
  have hq := hq w0_4 ew0_4
  refine lv_lstore_n (lv' := [(0, .long w0_4)]) hx hb dJ13_bitCount_95d88_40 rfl hl (by decide) rfl (fun ls hl => ?_)
  refine lv_lload_n hx hb dJ13_bitCount_95d88_41 rfl (lv_at hl 0 rfl) ?_
  refine lv_lload_n hx hb dJ13_bitCount_95d88_42 rfl (lv_at hl 0 rfl) ?_
  refine lv_bipush (v := 16) hx hb dJ13_bitCount_95d88_43 (by decide) ?_
  refine lv_lushr hx hb dJ13_bitCount_95d88_45 rfl ?_
  refine lv_ladd hx hb dJ13_bitCount_95d88_46 ?_
  refine lv_topl (fun w0_5 ew0_5 => ?_)
  have hq := hq w0_5 ew0_5
  refine lv_lstore_n (lv' := [(0, .long w0_5)]) hx hb dJ13_bitCount_95d88_47 rfl hl (by decide) rfl (fun ls hl => ?_)
  refine lv_lload_n hx hb dJ13_bitCount_95d88_48 rfl (lv_at hl 0 rfl) ?_
  refine lv_lload_n hx hb dJ13_bitCount_95d88_49 rfl (lv_at hl 0 rfl) ?_
  refine lv_bipush (v := 32) hx hb dJ13_bitCount_95d88_50 (by decide) ?_
  refine lv_lushr hx hb dJ13_bitCount_95d88_52 rfl ?_
  refine lv_ladd hx hb dJ13_bitCount_95d88_53 ?_
  refine lv_topl (fun w0_6 ew0_6 => ?_)
  have hq := hq w0_6 ew0_6
  refine lv_lstore_n (lv' := [(0, .long w0_6)]) hx hb dJ13_bitCount_95d88_54 rfl hl (by decide) rfl (fun ls hl => ?_)
  refine lv_lload_n hx hb dJ13_bitCount_95d88_55 rfl (lv_at hl 0 rfl) ?_
  refine lv_l2i hx hb dJ13_bitCount_95d88_56 rfl ?_
  refine lv_bipush (v := 127) hx hb dJ13_bitCount_95d88_57 (by decide) ?_
  refine lv_iand hx hb dJ13_bitCount_95d88_59 ?_
  exact hret _ _ _ _ _ dJ13_bitCount_95d88_60 hP hD hS hq
set_option maxHeartbeats 4000000 in
set_option maxRecDepth 100000 in
theorem c_X0_isAcross (l : Launch) (dC : Nat → ClassId) (dI : Nat → Nat → Nat) (cI cC cS : ClassId) (sz : Nat) (x0 : Int32) {post : Int32 → Prop} (hq : wp_X0_isAcross x0 post) : Met l yX0_isAcross wsX0_isAcross ({ frames := 0, cells := 0, slots := 0, locals := 0 } : Room) (gn_Pre (dC, dI) cI cC cS [.int x0] sz []) (va_Qi (fun (r : Int32) (u : Unit) => post r) (fun (u : Unit) t => va_P (dC, dI) vwCl [] t.heap ∧ va_K (dC, dI) vwCl (gn_tys cI cC cS) t ∧ va_D (va_A [] sz) []) (va_A [] sz)) 0 0 (va_A [] sz) := by
  unfold wp_X0_isAcross at hq
  refine Met.ofW (cc := cX0_isAcross) (maxL := 1) (ret := (some .boolean)) (by decide) rfl ?_
  intro p e s m args below meth c s₁ B hml hv
  obtain ⟨rfl, hsz, hP, hK, hN, hD0⟩ := hv
  have hx := B.exec
  have hb := B.bytes
  have hr := B.returns
  have hts := atoms_spec (ws := wsX0_isAcross) B.pre
  have hown : s.vm.findClass RX0 = some m.cls := findClass_of_methodNamed B.named
  have hlocks := B.notSynchronized
  subst hsz
  have hD := hD0.self (sz := s.heap.size)
  generalize hAe : va_A [] s.heap.size = A at hD ⊢
  have hA : ∀ q : Nat, s.heap.size ≤ q → A q := fun q h => by rw [← hAe]; exact Or.inr h
  have hS : va_S A s.heap s.heap [] := va_S.rf
  have hl := lv_entry ([.int x0] : List Value) (n := 1) (Nat.le_of_ble_eq_true rfl)
  rw [lg_entry_eq]
  generalize (lg_sl ([.int x0] : List Value) ++ List.replicate (1 - (lg_sl ([.int x0] : List Value)).length) Slot.unset).toArray = ls at hl ⊢
  have hl : lv_has ls 1 [(0, .int x0)] := hl
  refine gn_Q (hret := fun Q => ∀ (pc : Nat) (ls : Array Slot) (H : Heap) (locs : List Loc) (r : Int32) , decode cX0_isAcross pc = .ok (.ireturn, 1) → va_P (dC, dI) vwCl [] H → va_D A [] → va_S A s.heap H locs → (r = 0 ∨ r = 1) → post r → W p l e ({ frames := 0, cells := 0, slots := 0, locals := 0 } : Room) s m ([.int x0] : List Value).toArray below meth c H locs 0 0 Q (F0 m pc ls [.int r])) (fun Q hret => ?_) ?_
  rotate_left
  · intro pc ls H locs r hdg hP hD hS hz hpost
    exact W.zret (v := r) hx hb hr (gn_nz hz) (fun t ht hW => ⟨⟨r, (), rfl, hpost, by rw [ht]; exact hP, va_K.moved hW.alike hK, hD⟩, hS.F ht⟩) hS.2.2 hdg
  refine lv_iload_n hx hb dX0_isAcross_0 rfl (lv_at hl 0 rfl) ?_
  refine lv_iconst (v := 2) hx hb dX0_isAcross_1 (by decide) ?_
  refine lv_icmp_ge (tgt := 9) hx hb dX0_isAcross_2 (by decide) (fun hc => ?_) (fun hc => ?_)
  · have hq := hq.1 hc
    refine lv_iconst (v := 0) hx hb dX0_isAcross_9 (by decide) ?_
    have hz := hq.1
    have hq := hq.2
    exact hret _ _ _ _ _ dX0_isAcross_10 hP hD hS hz hq
  · have hq := hq.2 hc
    refine lv_iconst (v := 1) hx hb dX0_isAcross_5 (by decide) ?_
    refine lv_goto (tgt := 10) hx hb dX0_isAcross_6 (by decide) ?_
    have hz := hq.1
    have hq := hq.2
    exact hret _ _ _ _ _ dX0_isAcross_10 hP hD hS hz hq
set_option maxHeartbeats 4000000 in
set_option maxRecDepth 100000 in
theorem c_X0_movesFirstHalf (l : Launch) (dC : Nat → ClassId) (dI : Nat → Nat → Nat) (cI cC cS : ClassId) (sz : Nat) (x0 : Int32) {post : Int32 → Prop} (hq : wp_X0_movesFirstHalf x0 post) : Met l yX0_movesFirstHalf wsX0_movesFirstHalf ({ frames := 0, cells := 0, slots := 0, locals := 0 } : Room) (gn_Pre (dC, dI) cI cC cS [.int x0] sz []) (va_Qi (fun (r : Int32) (u : Unit) => post r) (fun (u : Unit) t => va_P (dC, dI) vwCl [] t.heap ∧ va_K (dC, dI) vwCl (gn_tys cI cC cS) t ∧ va_D (va_A [] sz) []) (va_A [] sz)) 0 0 (va_A [] sz) := by
  unfold wp_X0_movesFirstHalf at hq
  refine Met.ofW (cc := cX0_movesFirstHalf) (maxL := 1) (ret := (some .boolean)) (by decide) rfl ?_
  intro p e s m args below meth c s₁ B hml hv
  obtain ⟨rfl, hsz, hP, hK, hN, hD0⟩ := hv
  have hx := B.exec
  have hb := B.bytes
  have hr := B.returns
  have hts := atoms_spec (ws := wsX0_movesFirstHalf) B.pre
  have hown : s.vm.findClass RX0 = some m.cls := findClass_of_methodNamed B.named
  have hlocks := B.notSynchronized
  subst hsz
  have hD := hD0.self (sz := s.heap.size)
  generalize hAe : va_A [] s.heap.size = A at hD ⊢
  have hA : ∀ q : Nat, s.heap.size ≤ q → A q := fun q h => by rw [← hAe]; exact Or.inr h
  have hS : va_S A s.heap s.heap [] := va_S.rf
  have hl := lv_entry ([.int x0] : List Value) (n := 1) (Nat.le_of_ble_eq_true rfl)
  rw [lg_entry_eq]
  generalize (lg_sl ([.int x0] : List Value) ++ List.replicate (1 - (lg_sl ([.int x0] : List Value)).length) Slot.unset).toArray = ls at hl ⊢
  have hl : lv_has ls 1 [(0, .int x0)] := hl
  refine gn_Q (hret := fun Q => ∀ (pc : Nat) (ls : Array Slot) (H : Heap) (locs : List Loc) (r : Int32) , decode cX0_movesFirstHalf pc = .ok (.ireturn, 1) → va_P (dC, dI) vwCl [] H → va_D A [] → va_S A s.heap H locs → (r = 0 ∨ r = 1) → post r → W p l e ({ frames := 0, cells := 0, slots := 0, locals := 0 } : Room) s m ([.int x0] : List Value).toArray below meth c H locs 0 0 Q (F0 m pc ls [.int r])) (fun Q hret => ?_) ?_
  rotate_left
  · intro pc ls H locs r hdg hP hD hS hz hpost
    exact W.zret (v := r) hx hb hr (gn_nz hz) (fun t ht hW => ⟨⟨r, (), rfl, hpost, by rw [ht]; exact hP, va_K.moved hW.alike hK, hD⟩, hS.F ht⟩) hS.2.2 hdg
  refine lv_iload_n hx hb dX0_movesFirstHalf_0 rfl (lv_at hl 0 rfl) ?_
  refine lv_iconst (v := 2) hx hb dX0_movesFirstHalf_1 (by decide) ?_
  refine lv_irem hx hb dX0_movesFirstHalf_2 (by decide) ?_
  refine lv_if_ne (tgt := 10) hx hb dX0_movesFirstHalf_3 (by decide) (fun hc => ?_) (fun hc => ?_)
  · have hq := hq.1 hc
    refine lv_iconst (v := 0) hx hb dX0_movesFirstHalf_10 (by decide) ?_
    have hz := hq.1
    have hq := hq.2
    exact hret _ _ _ _ _ dX0_movesFirstHalf_11 hP hD hS hz hq
  · have hq := hq.2 hc
    refine lv_iconst (v := 1) hx hb dX0_movesFirstHalf_6 (by decide) ?_
    refine lv_goto (tgt := 11) hx hb dX0_movesFirstHalf_7 (by decide) ?_
    have hz := hq.1
    have hq := hq.2
    exact hret _ _ _ _ _ dX0_movesFirstHalf_11 hP hD hS hz hq
set_option maxRecDepth 20000 in
theorem kwX0_columns_19 : Cond.fieldLink RX0 19 "PunchedFolds$Folding" "madeAcross" "I" ∈ wsX0_columns := by decide +kernel
set_option maxRecDepth 20000 in
theorem iwX0_columns_X0 : ∀ w ∈ wsX00, w ∈ wsX0_columns := by decide +kernel
set_option maxHeartbeats 4000000 in
set_option maxRecDepth 100000 in
theorem c_X0_columns (l : Launch) (dC : Nat → ClassId) (dI : Nat → Nat → Nat) (cI cC cS : ClassId) (aF : Nat) (aK : Nat) (sz : Nat) (made : Int32) (mac : Int32) {post : Int32 → Prop} (hq : wp_X0_columns mac post) : Met l yX0_columns wsX0_columns ({ frames := 0, cells := 0, slots := 0, locals := 0 } : Room) (gn_Pre (dC, dI) cI cC cS [.ref aF] sz [(aF, .inr (0, [.ref aK, .int made, .int mac]))]) (va_Qi (fun (r : Int32) (u : Unit) => post r) (fun (u : Unit) t => va_P (dC, dI) vwCl [(aF, .inr (0, [.ref aK, .int made, .int mac]))] t.heap ∧ va_K (dC, dI) vwCl (gn_tys cI cC cS) t ∧ va_D (va_A [(aF, .inr (0, [.ref aK, .int made, .int mac]))] sz) [(aF, .inr (0, [.ref aK, .int made, .int mac]))]) (va_A [(aF, .inr (0, [.ref aK, .int made, .int mac]))] sz)) 0 0 (va_A [(aF, .inr (0, [.ref aK, .int made, .int mac]))] sz) := by
  unfold wp_X0_columns at hq
  refine Met.ofW (cc := cX0_columns) (maxL := 1) (ret := (some .int)) (by decide) rfl ?_
  intro p e s m args below meth c s₁ B hml hv
  obtain ⟨rfl, hsz, hP, hK, hN, hD0⟩ := hv
  have hx := B.exec
  have hb := B.bytes
  have hr := B.returns
  have hts := atoms_spec (ws := wsX0_columns) B.pre
  have hown : s.vm.findClass RX0 = some m.cls := findClass_of_methodNamed B.named
  have hlocks := B.notSynchronized
  subst hsz
  have hD := hD0.self (sz := s.heap.size)
  generalize hAe : va_A [(aF, .inr (0, [.ref aK, .int made, .int mac]))] s.heap.size = A at hD ⊢
  have hA : ∀ q : Nat, s.heap.size ≤ q → A q := fun q h => by rw [← hAe]; exact Or.inr h
  have hS : va_S A s.heap s.heap [] := va_S.rf
  have hl := lv_entry ([.ref aF] : List Value) (n := 1) (Nat.le_of_ble_eq_true rfl)
  rw [lg_entry_eq]
  generalize (lg_sl ([.ref aF] : List Value) ++ List.replicate (1 - (lg_sl ([.ref aF] : List Value)).length) Slot.unset).toArray = ls at hl ⊢
  have hl : lv_has ls 1 [(0, .ref aF)] := hl
  refine gn_Q (hret := fun Q => ∀ (pc : Nat) (ls : Array Slot) (H : Heap) (locs : List Loc) (r : Int32) , decode cX0_columns pc = .ok (.ireturn, 1) → va_P (dC, dI) vwCl [(aF, .inr (0, [.ref aK, .int made, .int mac]))] H → va_D A [(aF, .inr (0, [.ref aK, .int made, .int mac]))] → va_S A s.heap H locs → post r → W p l e ({ frames := 0, cells := 0, slots := 0, locals := 0 } : Room) s m ([.ref aF] : List Value).toArray below meth c H locs 0 0 Q (F0 m pc ls [.int r])) (fun Q hret => ?_) ?_
  rotate_left
  · intro pc ls H locs r hdg hP hD hS hpost
    exact W.iret (v := r) hx hb hr (fun t ht hW => ⟨⟨r, (), rfl, hpost, by rw [ht]; exact hP, va_K.moved hW.alike hK, hD⟩, hS.F ht⟩) hS.2.2 hdg
  refine lv_bipush (v := 8) hx hb dX0_columns_0 (by decide) ?_
  refine lv_aload_n hx hb dX0_columns_2 rfl (lv_at hl 0 rfl) ?_
  refine va_get (D := (dC, dI)) (ci := 0) (v := .int mac) (C := RX0) (T := TX0) (N := 3) hx hb hts iwX0_columns_X0 hown hK hP 0 rfl rfl 2 (by decide) (hts _ kwX0_columns_19) (fun _ h9 => h9) rfl dX0_columns_3 ?_
  refine lv_ishr hx hb dX0_columns_6 ?_
  exact hret _ _ _ _ _ dX0_columns_7 hP hD hS hq
set_option maxRecDepth 20000 in
theorem kwX0_rows_15 : Cond.fieldLink RX0 15 "PunchedFolds$Folding" "made" "I" ∈ wsX0_rows := by decide +kernel
set_option maxRecDepth 20000 in
theorem iwX0_rows_X0 : ∀ w ∈ wsX00, w ∈ wsX0_rows := by decide +kernel
set_option maxRecDepth 20000 in
theorem kwX0_rows_19 : Cond.fieldLink RX0 19 "PunchedFolds$Folding" "madeAcross" "I" ∈ wsX0_rows := by decide +kernel
set_option maxHeartbeats 4000000 in
set_option maxRecDepth 100000 in
theorem c_X0_rows (l : Launch) (dC : Nat → ClassId) (dI : Nat → Nat → Nat) (cI cC cS : ClassId) (aF : Nat) (aK : Nat) (sz : Nat) (made : Int32) (mac : Int32) {post : Int32 → Prop} (hq : wp_X0_rows made mac post) : Met l yX0_rows wsX0_rows ({ frames := 0, cells := 0, slots := 0, locals := 0 } : Room) (gn_Pre (dC, dI) cI cC cS [.ref aF] sz [(aF, .inr (0, [.ref aK, .int made, .int mac]))]) (va_Qi (fun (r : Int32) (u : Unit) => post r) (fun (u : Unit) t => va_P (dC, dI) vwCl [(aF, .inr (0, [.ref aK, .int made, .int mac]))] t.heap ∧ va_K (dC, dI) vwCl (gn_tys cI cC cS) t ∧ va_D (va_A [(aF, .inr (0, [.ref aK, .int made, .int mac]))] sz) [(aF, .inr (0, [.ref aK, .int made, .int mac]))]) (va_A [(aF, .inr (0, [.ref aK, .int made, .int mac]))] sz)) 0 0 (va_A [(aF, .inr (0, [.ref aK, .int made, .int mac]))] sz) := by
  unfold wp_X0_rows at hq
  refine Met.ofW (cc := cX0_rows) (maxL := 1) (ret := (some .int)) (by decide) rfl ?_
  intro p e s m args below meth c s₁ B hml hv
  obtain ⟨rfl, hsz, hP, hK, hN, hD0⟩ := hv
  have hx := B.exec
  have hb := B.bytes
  have hr := B.returns
  have hts := atoms_spec (ws := wsX0_rows) B.pre
  have hown : s.vm.findClass RX0 = some m.cls := findClass_of_methodNamed B.named
  have hlocks := B.notSynchronized
  subst hsz
  have hD := hD0.self (sz := s.heap.size)
  generalize hAe : va_A [(aF, .inr (0, [.ref aK, .int made, .int mac]))] s.heap.size = A at hD ⊢
  have hA : ∀ q : Nat, s.heap.size ≤ q → A q := fun q h => by rw [← hAe]; exact Or.inr h
  have hS : va_S A s.heap s.heap [] := va_S.rf
  have hl := lv_entry ([.ref aF] : List Value) (n := 1) (Nat.le_of_ble_eq_true rfl)
  rw [lg_entry_eq]
  generalize (lg_sl ([.ref aF] : List Value) ++ List.replicate (1 - (lg_sl ([.ref aF] : List Value)).length) Slot.unset).toArray = ls at hl ⊢
  have hl : lv_has ls 1 [(0, .ref aF)] := hl
  refine gn_Q (hret := fun Q => ∀ (pc : Nat) (ls : Array Slot) (H : Heap) (locs : List Loc) (r : Int32) , decode cX0_rows pc = .ok (.ireturn, 1) → va_P (dC, dI) vwCl [(aF, .inr (0, [.ref aK, .int made, .int mac]))] H → va_D A [(aF, .inr (0, [.ref aK, .int made, .int mac]))] → va_S A s.heap H locs → post r → W p l e ({ frames := 0, cells := 0, slots := 0, locals := 0 } : Room) s m ([.ref aF] : List Value).toArray below meth c H locs 0 0 Q (F0 m pc ls [.int r])) (fun Q hret => ?_) ?_
  rotate_left
  · intro pc ls H locs r hdg hP hD hS hpost
    exact W.iret (v := r) hx hb hr (fun t ht hW => ⟨⟨r, (), rfl, hpost, by rw [ht]; exact hP, va_K.moved hW.alike hK, hD⟩, hS.F ht⟩) hS.2.2 hdg
  refine lv_bipush (v := 8) hx hb dX0_rows_0 (by decide) ?_
  refine lv_aload_n hx hb dX0_rows_2 rfl (lv_at hl 0 rfl) ?_
  refine va_get (D := (dC, dI)) (ci := 0) (v := .int made) (C := RX0) (T := TX0) (N := 3) hx hb hts iwX0_rows_X0 hown hK hP 0 rfl rfl 1 (by decide) (hts _ kwX0_rows_15) (fun _ h9 => h9) rfl dX0_rows_3 ?_
  refine lv_aload_n hx hb dX0_rows_6 rfl (lv_at hl 0 rfl) ?_
  refine va_get (D := (dC, dI)) (ci := 0) (v := .int mac) (C := RX0) (T := TX0) (N := 3) hx hb hts iwX0_rows_X0 hown hK hP 0 rfl rfl 2 (by decide) (hts _ kwX0_rows_19) (fun _ h9 => h9) rfl dX0_rows_7 ?_
  refine lv_isub hx hb dX0_rows_10 ?_
  refine lv_ishr hx hb dX0_rows_11 ?_
  exact hret _ _ _ _ _ dX0_rows_12 hP hD hS hq
set_option maxRecDepth 20000 in
theorem kwX0_layers_15 : Cond.fieldLink RX0 15 "PunchedFolds$Folding" "made" "I" ∈ wsX0_layers := by decide +kernel
set_option maxRecDepth 20000 in
theorem iwX0_layers_X0 : ∀ w ∈ wsX00, w ∈ wsX0_layers := by decide +kernel
set_option maxHeartbeats 4000000 in
set_option maxRecDepth 100000 in
theorem c_X0_layers (l : Launch) (dC : Nat → ClassId) (dI : Nat → Nat → Nat) (cI cC cS : ClassId) (aF : Nat) (aK : Nat) (sz : Nat) (made : Int32) (mac : Int32) {post : Int32 → Prop} (hq : wp_X0_layers made post) : Met l yX0_layers wsX0_layers ({ frames := 0, cells := 0, slots := 0, locals := 0 } : Room) (gn_Pre (dC, dI) cI cC cS [.ref aF] sz [(aF, .inr (0, [.ref aK, .int made, .int mac]))]) (va_Qi (fun (r : Int32) (u : Unit) => post r) (fun (u : Unit) t => va_P (dC, dI) vwCl [(aF, .inr (0, [.ref aK, .int made, .int mac]))] t.heap ∧ va_K (dC, dI) vwCl (gn_tys cI cC cS) t ∧ va_D (va_A [(aF, .inr (0, [.ref aK, .int made, .int mac]))] sz) [(aF, .inr (0, [.ref aK, .int made, .int mac]))]) (va_A [(aF, .inr (0, [.ref aK, .int made, .int mac]))] sz)) 0 0 (va_A [(aF, .inr (0, [.ref aK, .int made, .int mac]))] sz) := by
  unfold wp_X0_layers at hq
  refine Met.ofW (cc := cX0_layers) (maxL := 1) (ret := (some .int)) (by decide) rfl ?_
  intro p e s m args below meth c s₁ B hml hv
  obtain ⟨rfl, hsz, hP, hK, hN, hD0⟩ := hv
  have hx := B.exec
  have hb := B.bytes
  have hr := B.returns
  have hts := atoms_spec (ws := wsX0_layers) B.pre
  have hown : s.vm.findClass RX0 = some m.cls := findClass_of_methodNamed B.named
  have hlocks := B.notSynchronized
  subst hsz
  have hD := hD0.self (sz := s.heap.size)
  generalize hAe : va_A [(aF, .inr (0, [.ref aK, .int made, .int mac]))] s.heap.size = A at hD ⊢
  have hA : ∀ q : Nat, s.heap.size ≤ q → A q := fun q h => by rw [← hAe]; exact Or.inr h
  have hS : va_S A s.heap s.heap [] := va_S.rf
  have hl := lv_entry ([.ref aF] : List Value) (n := 1) (Nat.le_of_ble_eq_true rfl)
  rw [lg_entry_eq]
  generalize (lg_sl ([.ref aF] : List Value) ++ List.replicate (1 - (lg_sl ([.ref aF] : List Value)).length) Slot.unset).toArray = ls at hl ⊢
  have hl : lv_has ls 1 [(0, .ref aF)] := hl
  refine gn_Q (hret := fun Q => ∀ (pc : Nat) (ls : Array Slot) (H : Heap) (locs : List Loc) (r : Int32) , decode cX0_layers pc = .ok (.ireturn, 1) → va_P (dC, dI) vwCl [(aF, .inr (0, [.ref aK, .int made, .int mac]))] H → va_D A [(aF, .inr (0, [.ref aK, .int made, .int mac]))] → va_S A s.heap H locs → post r → W p l e ({ frames := 0, cells := 0, slots := 0, locals := 0 } : Room) s m ([.ref aF] : List Value).toArray below meth c H locs 0 0 Q (F0 m pc ls [.int r])) (fun Q hret => ?_) ?_
  rotate_left
  · intro pc ls H locs r hdg hP hD hS hpost
    exact W.iret (v := r) hx hb hr (fun t ht hW => ⟨⟨r, (), rfl, hpost, by rw [ht]; exact hP, va_K.moved hW.alike hK, hD⟩, hS.F ht⟩) hS.2.2 hdg
  refine lv_iconst (v := 1) hx hb dX0_layers_0 (by decide) ?_
  refine lv_aload_n hx hb dX0_layers_1 rfl (lv_at hl 0 rfl) ?_
  refine va_get (D := (dC, dI)) (ci := 0) (v := .int made) (C := RX0) (T := TX0) (N := 3) hx hb hts iwX0_layers_X0 hown hK hP 0 rfl rfl 1 (by decide) (hts _ kwX0_layers_15) (fun _ h9 => h9) rfl dX0_layers_2 ?_
  refine lv_ishl hx hb dX0_layers_5 ?_
  exact hret _ _ _ _ _ dX0_layers_6 hP hD hS hq
set_option maxRecDepth 20000 in
theorem kwX0_hasFold_15 : Cond.fieldLink RX0 15 "PunchedFolds$Folding" "made" "I" ∈ wsX0_hasFold := by decide +kernel
set_option maxRecDepth 20000 in
theorem iwX0_hasFold_X0 : ∀ w ∈ wsX00, w ∈ wsX0_hasFold := by decide +kernel
set_option maxHeartbeats 4000000 in
set_option maxRecDepth 100000 in
theorem c_X0_hasFold (l : Launch) (dC : Nat → ClassId) (dI : Nat → Nat → Nat) (cI cC cS : ClassId) (aF : Nat) (aK : Nat) (sz : Nat) (made : Int32) (mac : Int32) (x1 : Int32) {post : Int32 → Prop} (hq : wp_X0_hasFold made x1 post) : Met l yX0_hasFold wsX0_hasFold ({ frames := 0, cells := 0, slots := 0, locals := 0 } : Room) (gn_Pre (dC, dI) cI cC cS [.ref aF, .int x1] sz [(aF, .inr (0, [.ref aK, .int made, .int mac]))]) (va_Qi (fun (r : Int32) (u : Unit) => post r) (fun (u : Unit) t => va_P (dC, dI) vwCl [(aF, .inr (0, [.ref aK, .int made, .int mac]))] t.heap ∧ va_K (dC, dI) vwCl (gn_tys cI cC cS) t ∧ va_D (va_A [(aF, .inr (0, [.ref aK, .int made, .int mac]))] sz) [(aF, .inr (0, [.ref aK, .int made, .int mac]))]) (va_A [(aF, .inr (0, [.ref aK, .int made, .int mac]))] sz)) 0 0 (va_A [(aF, .inr (0, [.ref aK, .int made, .int mac]))] sz) := by
  unfold wp_X0_hasFold at hq
  refine Met.ofW (cc := cX0_hasFold) (maxL := 2) (ret := (some .boolean)) (by decide) rfl ?_
  intro p e s m args below meth c s₁ B hml hv
  obtain ⟨rfl, hsz, hP, hK, hN, hD0⟩ := hv
  have hx := B.exec
  have hb := B.bytes
  have hr := B.returns
  have hts := atoms_spec (ws := wsX0_hasFold) B.pre
  have hown : s.vm.findClass RX0 = some m.cls := findClass_of_methodNamed B.named
  have hlocks := B.notSynchronized
  subst hsz
  have hD := hD0.self (sz := s.heap.size)
  generalize hAe : va_A [(aF, .inr (0, [.ref aK, .int made, .int mac]))] s.heap.size = A at hD ⊢
  have hA : ∀ q : Nat, s.heap.size ≤ q → A q := fun q h => by rw [← hAe]; exact Or.inr h
  have hS : va_S A s.heap s.heap [] := va_S.rf
  have hl := lv_entry ([.ref aF, .int x1] : List Value) (n := 2) (Nat.le_of_ble_eq_true rfl)
  rw [lg_entry_eq]
  generalize (lg_sl ([.ref aF, .int x1] : List Value) ++ List.replicate (2 - (lg_sl ([.ref aF, .int x1] : List Value)).length) Slot.unset).toArray = ls at hl ⊢
  have hl : lv_has ls 2 [(0, .ref aF), (1, .int x1)] := hl
  refine gn_Q (hret := fun Q => ∀ (pc : Nat) (ls : Array Slot) (H : Heap) (locs : List Loc) (r : Int32) , decode cX0_hasFold pc = .ok (.ireturn, 1) → va_P (dC, dI) vwCl [(aF, .inr (0, [.ref aK, .int made, .int mac]))] H → va_D A [(aF, .inr (0, [.ref aK, .int made, .int mac]))] → va_S A s.heap H locs → (r = 0 ∨ r = 1) → post r → W p l e ({ frames := 0, cells := 0, slots := 0, locals := 0 } : Room) s m ([.ref aF, .int x1] : List Value).toArray below meth c H locs 0 0 Q (F0 m pc ls [.int r])) (fun Q hret => ?_) ?_
  rotate_left
  · intro pc ls H locs r hdg hP hD hS hz hpost
    exact W.zret (v := r) hx hb hr (gn_nz hz) (fun t ht hW => ⟨⟨r, (), rfl, hpost, by rw [ht]; exact hP, va_K.moved hW.alike hK, hD⟩, hS.F ht⟩) hS.2.2 hdg
  refine lv_iload_n hx hb dX0_hasFold_0 rfl (lv_at hl 1 rfl) ?_
  have hq := hq (∀ (H : Heap) (locs : List Loc) (ls : Array Slot), va_P (dC, dI) vwCl [(aF, .inr (0, [.ref aK, .int made, .int mac]))] H → va_D A [(aF, .inr (0, [.ref aK, .int made, .int mac]))] → va_S A s.heap H locs → lv_has ls 2 [] → W p l e ({ frames := 0, cells := 0, slots := 0, locals := 0 } : Room) s m ([.ref aF, .int x1] : List Value).toArray below meth c H locs 0 0 Q (F0 m 16 ls [])) (by
    intro  hq H locs ls hP hD hS hl
    refine lv_iconst (v := 0) hx hb dX0_hasFold_16 (by decide) ?_
    have hz := hq.1
    have hq := hq.2
    exact hret _ _ _ _ _ dX0_hasFold_17 hP hD hS hz hq)
  refine lv_if_lt (tgt := 16) hx hb dX0_hasFold_1 (by decide) (fun hc => ?_) (fun hc => ?_)
  · have hq := hq.1 hc
    exact hq _ _ _ hP hD hS (lv_sub hl [] rfl)
  · have hq := hq.2 hc
    refine lv_iload_n hx hb dX0_hasFold_4 rfl (lv_at hl 1 rfl) ?_
    refine lv_aload_n hx hb dX0_hasFold_5 rfl (lv_at hl 0 rfl) ?_
    refine va_get (D := (dC, dI)) (ci := 0) (v := .int made) (C := RX0) (T := TX0) (N := 3) hx hb hts iwX0_hasFold_X0 hown hK hP 0 rfl rfl 1 (by decide) (hts _ kwX0_hasFold_15) (fun _ h9 => h9) rfl dX0_hasFold_6 ?_
    refine lv_icmp_ge (tgt := 16) hx hb dX0_hasFold_9 (by decide) (fun hc => ?_) (fun hc => ?_)
    · have hq := hq.1 hc
      exact hq _ _ _ hP hD hS (lv_sub hl [] rfl)
    · have hq := hq.2 hc
      refine lv_iconst (v := 1) hx hb dX0_hasFold_12 (by decide) ?_
      refine lv_goto (tgt := 17) hx hb dX0_hasFold_13 (by decide) ?_
      have hz := hq.1
      have hq := hq.2
      exact hret _ _ _ _ _ dX0_hasFold_17 hP hD hS hz hq
set_option maxRecDepth 20000 in
theorem kwX0_kindOf_9 : Cond.fieldLink RX0 9 "PunchedFolds$Folding" "kinds" "[I" ∈ wsX0_kindOf := by decide +kernel
set_option maxRecDepth 20000 in
theorem iwX0_kindOf_X0 : ∀ w ∈ wsX00, w ∈ wsX0_kindOf := by decide +kernel
set_option maxHeartbeats 4000000 in
set_option maxRecDepth 100000 in
theorem c_X0_kindOf (l : Launch) (dC : Nat → ClassId) (dI : Nat → Nat → Nat) (cI cC cS : ClassId) (aF : Nat) (aK : Nat) (sz : Nat) (made : Int32) (mac : Int32) (ks : Nat → Int32) (x1 : Int32) {post : Int32 → Prop} (hq : wp_X0_kindOf ks x1 post) : Met l yX0_kindOf wsX0_kindOf ({ frames := 0, cells := 0, slots := 0, locals := 0 } : Room) (gn_Pre (dC, dI) cI cC cS [.ref aF, .int x1] sz [(aF, .inr (0, [.ref aK, .int made, .int mac])), (aK, .inl (cI, 6, .inl ks))]) (va_Qi (fun (r : Int32) (u : Unit) => post r) (fun (u : Unit) t => va_P (dC, dI) vwCl [(aF, .inr (0, [.ref aK, .int made, .int mac])), (aK, .inl (cI, 6, .inl ks))] t.heap ∧ va_K (dC, dI) vwCl (gn_tys cI cC cS) t ∧ va_D (va_A [(aF, .inr (0, [.ref aK, .int made, .int mac])), (aK, .inl (cI, 6, .inl ks))] sz) [(aF, .inr (0, [.ref aK, .int made, .int mac])), (aK, .inl (cI, 6, .inl ks))]) (va_A [(aF, .inr (0, [.ref aK, .int made, .int mac])), (aK, .inl (cI, 6, .inl ks))] sz)) 0 0 (va_A [(aF, .inr (0, [.ref aK, .int made, .int mac])), (aK, .inl (cI, 6, .inl ks))] sz) := by
  unfold wp_X0_kindOf at hq
  refine Met.ofW (cc := cX0_kindOf) (maxL := 2) (ret := (some .int)) (by decide) rfl ?_
  intro p e s m args below meth c s₁ B hml hv
  obtain ⟨rfl, hsz, hP, hK, hN, hD0⟩ := hv
  have hx := B.exec
  have hb := B.bytes
  have hr := B.returns
  have hts := atoms_spec (ws := wsX0_kindOf) B.pre
  have hown : s.vm.findClass RX0 = some m.cls := findClass_of_methodNamed B.named
  have hlocks := B.notSynchronized
  subst hsz
  have hD := hD0.self (sz := s.heap.size)
  generalize hAe : va_A [(aF, .inr (0, [.ref aK, .int made, .int mac])), (aK, .inl (cI, 6, .inl ks))] s.heap.size = A at hD ⊢
  have hA : ∀ q : Nat, s.heap.size ≤ q → A q := fun q h => by rw [← hAe]; exact Or.inr h
  have hS : va_S A s.heap s.heap [] := va_S.rf
  have hl := lv_entry ([.ref aF, .int x1] : List Value) (n := 2) (Nat.le_of_ble_eq_true rfl)
  rw [lg_entry_eq]
  generalize (lg_sl ([.ref aF, .int x1] : List Value) ++ List.replicate (2 - (lg_sl ([.ref aF, .int x1] : List Value)).length) Slot.unset).toArray = ls at hl ⊢
  have hl : lv_has ls 2 [(0, .ref aF), (1, .int x1)] := hl
  refine gn_Q (hret := fun Q => ∀ (pc : Nat) (ls : Array Slot) (H : Heap) (locs : List Loc) (r : Int32) , decode cX0_kindOf pc = .ok (.ireturn, 1) → va_P (dC, dI) vwCl [(aF, .inr (0, [.ref aK, .int made, .int mac])), (aK, .inl (cI, 6, .inl ks))] H → va_D A [(aF, .inr (0, [.ref aK, .int made, .int mac])), (aK, .inl (cI, 6, .inl ks))] → va_S A s.heap H locs → post r → W p l e ({ frames := 0, cells := 0, slots := 0, locals := 0 } : Room) s m ([.ref aF, .int x1] : List Value).toArray below meth c H locs 0 0 Q (F0 m pc ls [.int r])) (fun Q hret => ?_) ?_
  rotate_left
  · intro pc ls H locs r hdg hP hD hS hpost
    exact W.iret (v := r) hx hb hr (fun t ht hW => ⟨⟨r, (), rfl, hpost, by rw [ht]; exact hP, va_K.moved hW.alike hK, hD⟩, hS.F ht⟩) hS.2.2 hdg
  refine lv_iload_n hx hb dX0_kindOf_0 rfl (lv_at hl 1 rfl) ?_
  have hq := hq (∀ (H : Heap) (locs : List Loc) (ls : Array Slot), va_P (dC, dI) vwCl [(aF, .inr (0, [.ref aK, .int made, .int mac])), (aK, .inl (cI, 6, .inl ks))] H → va_D A [(aF, .inr (0, [.ref aK, .int made, .int mac])), (aK, .inl (cI, 6, .inl ks))] → va_S A s.heap H locs → lv_has ls 2 [] → W p l e ({ frames := 0, cells := 0, slots := 0, locals := 0 } : Room) s m ([.ref aF, .int x1] : List Value).toArray below meth c H locs 0 0 Q (F0 m 22 ls [])) (by
    intro  hq H locs ls hP hD hS hl
    refine lv_iconst (v := 0) hx hb dX0_kindOf_22 (by decide) ?_
    exact hret _ _ _ _ _ dX0_kindOf_23 hP hD hS hq)
  refine lv_if_lt (tgt := 22) hx hb dX0_kindOf_1 (by decide) (fun hc => ?_) (fun hc => ?_)
  · have hq := hq.1 hc
    exact hq _ _ _ hP hD hS (lv_sub hl [] rfl)
  · have hq := hq.2 hc
    refine lv_iload_n hx hb dX0_kindOf_4 rfl (lv_at hl 1 rfl) ?_
    refine lv_aload_n hx hb dX0_kindOf_5 rfl (lv_at hl 0 rfl) ?_
    refine va_get (D := (dC, dI)) (ci := 0) (v := .ref aK) (C := RX0) (T := TX0) (N := 3) hx hb hts iwX0_kindOf_X0 hown hK hP 0 rfl rfl 0 (by decide) (hts _ kwX0_kindOf_9) (fun _ h9 => h9) rfl dX0_kindOf_6 ?_
    refine va_alen hx hb hK hP 1 0 rfl rfl (v := 6) rfl dX0_kindOf_9 ?_
    refine lv_icmp_ge (tgt := 22) hx hb dX0_kindOf_10 (by decide) (fun hc => ?_) (fun hc => ?_)
    · have hq := hq.1 hc
      exact hq _ _ _ hP hD hS (lv_sub hl [] rfl)
    · have hq := hq.2 hc
      refine lv_aload_n hx hb dX0_kindOf_13 rfl (lv_at hl 0 rfl) ?_
      refine va_get (D := (dC, dI)) (ci := 0) (v := .ref aK) (C := RX0) (T := TX0) (N := 3) hx hb hts iwX0_kindOf_X0 hown hK hP 0 rfl rfl 0 (by decide) (hts _ kwX0_kindOf_9) (fun _ h9 => h9) rfl dX0_kindOf_14 ?_
      refine lv_iload_n hx hb dX0_kindOf_17 rfl (lv_at hl 1 rfl) ?_
      have hin := hq.1
      have hq := hq.2
      refine va_iald hx hb hK hP 1 0 rfl rfl hin dX0_kindOf_18 ?_
      refine lv_goto (tgt := 23) hx hb dX0_kindOf_19 (by decide) ?_
      exact hret _ _ _ _ _ dX0_kindOf_23 hP hD hS hq
set_option maxHeartbeats 4000000 in
set_option maxRecDepth 100000 in
theorem c_X0_hasField (l : Launch) (dC : Nat → ClassId) (dI : Nat → Nat → Nat) (cI cC cS : ClassId) (aF : Nat) (aK : Nat) (sz : Nat) (made : Int32) (mac : Int32) (x1 : Int32) (x2 : Int32) {post : Int32 → Prop} (hq : wp_X0_hasField made mac x1 x2 post) : Met l yX0_hasField wsX0_hasField ({ frames := 1, cells := 0, slots := 0, locals := 20 } : Room) (gn_Pre (dC, dI) cI cC cS [.ref aF, .int x1, .int x2] sz [(aF, .inr (0, [.ref aK, .int made, .int mac]))]) (va_Qi (fun (r : Int32) (u : Unit) => post r) (fun (u : Unit) t => va_P (dC, dI) vwCl [(aF, .inr (0, [.ref aK, .int made, .int mac]))] t.heap ∧ va_K (dC, dI) vwCl (gn_tys cI cC cS) t ∧ va_D (va_A [(aF, .inr (0, [.ref aK, .int made, .int mac]))] sz) [(aF, .inr (0, [.ref aK, .int made, .int mac]))]) (va_A [(aF, .inr (0, [.ref aK, .int made, .int mac]))] sz)) 0 0 (va_A [(aF, .inr (0, [.ref aK, .int made, .int mac]))] sz) := by
  unfold wp_X0_hasField at hq
  refine Met.ofW (cc := cX0_hasField) (maxL := 3) (ret := (some .boolean)) (by decide) rfl ?_
  intro p e s m args below meth c s₁ B hml hv
  obtain ⟨rfl, hsz, hP, hK, hN, hD0⟩ := hv
  have hx := B.exec
  have hb := B.bytes
  have hr := B.returns
  have hts := atoms_spec (ws := wsX0_hasField) B.pre
  have hown : s.vm.findClass RX0 = some m.cls := findClass_of_methodNamed B.named
  have hlocks := B.notSynchronized
  subst hsz
  have hD := hD0.self (sz := s.heap.size)
  generalize hAe : va_A [(aF, .inr (0, [.ref aK, .int made, .int mac]))] s.heap.size = A at hD ⊢
  have hA : ∀ q : Nat, s.heap.size ≤ q → A q := fun q h => by rw [← hAe]; exact Or.inr h
  have hS : va_S A s.heap s.heap [] := va_S.rf
  have hl := lv_entry ([.ref aF, .int x1, .int x2] : List Value) (n := 3) (Nat.le_of_ble_eq_true rfl)
  rw [lg_entry_eq]
  generalize (lg_sl ([.ref aF, .int x1, .int x2] : List Value) ++ List.replicate (3 - (lg_sl ([.ref aF, .int x1, .int x2] : List Value)).length) Slot.unset).toArray = ls at hl ⊢
  have hl : lv_has ls 3 [(0, .ref aF), (1, .int x1), (2, .int x2)] := hl
  refine gn_Q (hret := fun Q => ∀ (pc : Nat) (ls : Array Slot) (H : Heap) (locs : List Loc) (r : Int32) , decode cX0_hasField pc = .ok (.ireturn, 1) → va_P (dC, dI) vwCl [(aF, .inr (0, [.ref aK, .int made, .int mac]))] H → va_D A [(aF, .inr (0, [.ref aK, .int made, .int mac]))] → va_S A s.heap H locs → (r = 0 ∨ r = 1) → post r → W p l e ({ frames := 1, cells := 0, slots := 0, locals := 20 } : Room) s m ([.ref aF, .int x1, .int x2] : List Value).toArray below meth c H locs 0 0 Q (F0 m pc ls [.int r])) (fun Q hret => ?_) ?_
  rotate_left
  · intro pc ls H locs r hdg hP hD hS hz hpost
    exact W.zret (v := r) hx hb hr (gn_nz hz) (fun t ht hW => ⟨⟨r, (), rfl, hpost, by rw [ht]; exact hP, va_K.moved hW.alike hK, hD⟩, hS.F ht⟩) hS.2.2 hdg
  refine lv_iload_n hx hb dX0_hasField_0 rfl (lv_at hl 1 rfl) ?_
  have hq := hq (∀ (H : Heap) (locs : List Loc) (ls : Array Slot), va_P (dC, dI) vwCl [(aF, .inr (0, [.ref aK, .int made, .int mac]))] H → va_D A [(aF, .inr (0, [.ref aK, .int made, .int mac]))] → va_S A s.heap H locs → lv_has ls 3 [] → W p l e ({ frames := 1, cells := 0, slots := 0, locals := 20 } : Room) s m ([.ref aF, .int x1, .int x2] : List Value).toArray below meth c H locs 0 0 Q (F0 m 28 ls [])) (by
    intro  hq H locs ls hP hD hS hl
    refine lv_iconst (v := 0) hx hb dX0_hasField_28 (by decide) ?_
    have hz := hq.1
    have hq := hq.2
    exact hret _ _ _ _ _ dX0_hasField_29 hP hD hS hz hq)
  refine lv_if_lt (tgt := 28) hx hb dX0_hasField_1 (by decide) (fun hc => ?_) (fun hc => ?_)
  · have hq := hq.1 hc
    exact hq _ _ _ hP hD hS (lv_sub hl [] rfl)
  · have hq := hq.2 hc
    refine lv_iload_n hx hb dX0_hasField_4 rfl (lv_at hl 1 rfl) ?_
    refine lv_aload_n hx hb dX0_hasField_5 rfl (lv_at hl 0 rfl) ?_
    have hPc := hP.sub (ws' := [(aF, .inr (0, [.ref aK, .int made, .int mac]))]) [0] rfl
    have hDc := hD.sub (ws' := [(aF, .inr (0, [.ref aK, .int made, .int mac]))]) [0] (by decide) rfl
    have hFc := va_free (wc := [(aF, .inr (0, [.ref aK, .int made, .int mac]))]) hD hS hA [0] rfl
    refine va_calli (va_runV (As := []) (rest := [.int x1]) ⟨hx, hb, hml, hown, hts⟩ (c_X0_columns l dC dI cI cC cS aF aK _ made mac hq) (cwV 0 hts gX0_hasField_X0_columns rfl rfl rfl (by decide +kernel) ⟨Nat.le_of_ble_eq_true rfl, Nat.le_of_ble_eq_true rfl⟩) (gn_preV hPc hK hN hDc (ci := 0) (q0 := 0) rfl rfl) rfl rfl hl.1 rfl (lv_room (Nat.le_of_ble_eq_true rfl)) dX0_hasField_6 ⟨Nat.zero_le _, Nat.zero_le _⟩) hS (fun q _ h => hFc q h) hFc (fun r_1 u t H1 locs ht hvm hq hB hz1 hk1 hS => ?_)
    obtain ⟨hP1, hK1, hD1⟩ := hB
    rw [ht] at hP1
    try dsimp only at hq
    obtain ⟨hP, hD⟩ := va_join (wr := []) (w1 := [(aF, .inr (0, [.ref aK, .int made, .int mac]))]) hP hD [0] [] rfl rfl (by decide) (by decide) hk1 hFc hP1 hD1
    have hP := hP.sub (ws' := [(aF, .inr (0, [.ref aK, .int made, .int mac]))]) [0] rfl
    have hD := hD.sub (ws' := [(aF, .inr (0, [.ref aK, .int made, .int mac]))]) [0] (by decide) rfl
    generalize H1 = H at hP hS ⊢
    refine lv_icmp_ge (tgt := 28) hx hb dX0_hasField_9 (by decide) (fun hc => ?_) (fun hc => ?_)
    · have hq := hq.1 hc
      exact hq _ _ _ hP hD hS (lv_sub hl [] rfl)
    · have hq := hq.2 hc
      refine lv_iload_n hx hb dX0_hasField_12 rfl (lv_at hl 2 rfl) ?_
      refine lv_if_lt (tgt := 28) hx hb dX0_hasField_13 (by decide) (fun hc => ?_) (fun hc => ?_)
      · have hq := hq.1 hc
        exact hq _ _ _ hP hD hS (lv_sub hl [] rfl)
      · have hq := hq.2 hc
        refine lv_iload_n hx hb dX0_hasField_16 rfl (lv_at hl 2 rfl) ?_
        refine lv_aload_n hx hb dX0_hasField_17 rfl (lv_at hl 0 rfl) ?_
        have hPc := hP.sub (ws' := [(aF, .inr (0, [.ref aK, .int made, .int mac]))]) [0] rfl
        have hDc := hD.sub (ws' := [(aF, .inr (0, [.ref aK, .int made, .int mac]))]) [0] (by decide) rfl
        have hFc := va_free (wc := [(aF, .inr (0, [.ref aK, .int made, .int mac]))]) hD hS hA [0] rfl
        refine va_calli (va_runV (As := []) (rest := [.int x2]) ⟨hx, hb, hml, hown, hts⟩ (c_X0_rows l dC dI cI cC cS aF aK _ made mac hq) (cwV 0 hts gX0_hasField_X0_rows rfl rfl rfl (by decide +kernel) ⟨Nat.le_of_ble_eq_true rfl, Nat.le_of_ble_eq_true rfl⟩) (gn_preV hPc hK hN hDc (ci := 0) (q0 := 0) rfl rfl) rfl rfl hl.1 rfl (lv_room (Nat.le_of_ble_eq_true rfl)) dX0_hasField_18 ⟨Nat.zero_le _, Nat.zero_le _⟩) hS (fun q _ h => hFc q h) hFc (fun r_2 u t H1 locs ht hvm hq hB hz1 hk1 hS => ?_)
        obtain ⟨hP1, hK1, hD1⟩ := hB
        rw [ht] at hP1
        try dsimp only at hq
        obtain ⟨hP, hD⟩ := va_join (wr := []) (w1 := [(aF, .inr (0, [.ref aK, .int made, .int mac]))]) hP hD [0] [] rfl rfl (by decide) (by decide) hk1 hFc hP1 hD1
        have hP := hP.sub (ws' := [(aF, .inr (0, [.ref aK, .int made, .int mac]))]) [0] rfl
        have hD := hD.sub (ws' := [(aF, .inr (0, [.ref aK, .int made, .int mac]))]) [0] (by decide) rfl
        generalize H1 = H at hP hS ⊢
        refine lv_icmp_ge (tgt := 28) hx hb dX0_hasField_21 (by decide) (fun hc => ?_) (fun hc => ?_)
        · have hq := hq.1 hc
          exact hq _ _ _ hP hD hS (lv_sub hl [] rfl)
        · have hq := hq.2 hc
          refine lv_iconst (v := 1) hx hb dX0_hasField_24 (by decide) ?_
          refine lv_goto (tgt := 29) hx hb dX0_hasField_25 (by decide) ?_
          have hz := hq.1
          have hq := hq.2
          exact hret _ _ _ _ _ dX0_hasField_29 hP hD hS hz hq
set_option maxHeartbeats 4000000 in
set_option maxRecDepth 100000 in
theorem c_X0_hasLayer (l : Launch) (dC : Nat → ClassId) (dI : Nat → Nat → Nat) (cI cC cS : ClassId) (aF : Nat) (aK : Nat) (sz : Nat) (made : Int32) (mac : Int32) (x1 : Int32) (x2 : Int32) (x3 : Int32) {post : Int32 → Prop} (hq : wp_X0_hasLayer made mac x1 x2 x3 post) : Met l yX0_hasLayer wsX0_hasLayer ({ frames := 2, cells := 0, slots := 0, locals := 42 } : Room) (gn_Pre (dC, dI) cI cC cS [.ref aF, .int x1, .int x2, .int x3] sz [(aF, .inr (0, [.ref aK, .int made, .int mac]))]) (va_Qi (fun (r : Int32) (u : Unit) => post r) (fun (u : Unit) t => va_P (dC, dI) vwCl [(aF, .inr (0, [.ref aK, .int made, .int mac]))] t.heap ∧ va_K (dC, dI) vwCl (gn_tys cI cC cS) t ∧ va_D (va_A [(aF, .inr (0, [.ref aK, .int made, .int mac]))] sz) [(aF, .inr (0, [.ref aK, .int made, .int mac]))]) (va_A [(aF, .inr (0, [.ref aK, .int made, .int mac]))] sz)) 0 0 (va_A [(aF, .inr (0, [.ref aK, .int made, .int mac]))] sz) := by
  unfold wp_X0_hasLayer at hq
  refine Met.ofW (cc := cX0_hasLayer) (maxL := 4) (ret := (some .boolean)) (by decide) rfl ?_
  intro p e s m args below meth c s₁ B hml hv
  obtain ⟨rfl, hsz, hP, hK, hN, hD0⟩ := hv
  have hx := B.exec
  have hb := B.bytes
  have hr := B.returns
  have hts := atoms_spec (ws := wsX0_hasLayer) B.pre
  have hown : s.vm.findClass RX0 = some m.cls := findClass_of_methodNamed B.named
  have hlocks := B.notSynchronized
  subst hsz
  have hD := hD0.self (sz := s.heap.size)
  generalize hAe : va_A [(aF, .inr (0, [.ref aK, .int made, .int mac]))] s.heap.size = A at hD ⊢
  have hA : ∀ q : Nat, s.heap.size ≤ q → A q := fun q h => by rw [← hAe]; exact Or.inr h
  have hS : va_S A s.heap s.heap [] := va_S.rf
  have hl := lv_entry ([.ref aF, .int x1, .int x2, .int x3] : List Value) (n := 4) (Nat.le_of_ble_eq_true rfl)
  rw [lg_entry_eq]
  generalize (lg_sl ([.ref aF, .int x1, .int x2, .int x3] : List Value) ++ List.replicate (4 - (lg_sl ([.ref aF, .int x1, .int x2, .int x3] : List Value)).length) Slot.unset).toArray = ls at hl ⊢
  have hl : lv_has ls 4 [(0, .ref aF), (1, .int x1), (2, .int x2), (3, .int x3)] := hl
  refine gn_Q (hret := fun Q => ∀ (pc : Nat) (ls : Array Slot) (H : Heap) (locs : List Loc) (r : Int32) , decode cX0_hasLayer pc = .ok (.ireturn, 1) → va_P (dC, dI) vwCl [(aF, .inr (0, [.ref aK, .int made, .int mac]))] H → va_D A [(aF, .inr (0, [.ref aK, .int made, .int mac]))] → va_S A s.heap H locs → (r = 0 ∨ r = 1) → post r → W p l e ({ frames := 2, cells := 0, slots := 0, locals := 42 } : Room) s m ([.ref aF, .int x1, .int x2, .int x3] : List Value).toArray below meth c H locs 0 0 Q (F0 m pc ls [.int r])) (fun Q hret => ?_) ?_
  rotate_left
  · intro pc ls H locs r hdg hP hD hS hz hpost
    exact W.zret (v := r) hx hb hr (gn_nz hz) (fun t ht hW => ⟨⟨r, (), rfl, hpost, by rw [ht]; exact hP, va_K.moved hW.alike hK, hD⟩, hS.F ht⟩) hS.2.2 hdg
  refine lv_aload_n hx hb dX0_hasLayer_0 rfl (lv_at hl 0 rfl) ?_
  refine lv_iload_n hx hb dX0_hasLayer_1 rfl (lv_at hl 1 rfl) ?_
  refine lv_iload_n hx hb dX0_hasLayer_2 rfl (lv_at hl 2 rfl) ?_
  have hPc := hP.sub (ws' := [(aF, .inr (0, [.ref aK, .int made, .int mac]))]) [0] rfl
  have hDc := hD.sub (ws' := [(aF, .inr (0, [.ref aK, .int made, .int mac]))]) [0] (by decide) rfl
  have hFc := va_free (wc := [(aF, .inr (0, [.ref aK, .int made, .int mac]))]) hD hS hA [0] rfl
  refine va_calli (va_runV (As := [.int x1, .int x2]) (rest := []) ⟨hx, hb, hml, hown, hts⟩ (c_X0_hasField l dC dI cI cC cS aF aK _ made mac x1 x2 hq) (cwV 2 hts gX0_hasLayer_X0_hasField rfl rfl rfl (by decide +kernel) ⟨Nat.le_of_ble_eq_true rfl, Nat.le_of_ble_eq_true rfl⟩) (gn_preV hPc hK hN hDc (ci := 0) (q0 := 0) rfl rfl) rfl rfl hl.1 rfl (lv_room (Nat.le_of_ble_eq_true rfl)) dX0_hasLayer_3 ⟨Nat.zero_le _, Nat.zero_le _⟩) hS (fun q _ h => hFc q h) hFc (fun r_1 u t H1 locs ht hvm hq hB hz1 hk1 hS => ?_)
  obtain ⟨hP1, hK1, hD1⟩ := hB
  rw [ht] at hP1
  try dsimp only at hq
  obtain ⟨hP, hD⟩ := va_join (wr := []) (w1 := [(aF, .inr (0, [.ref aK, .int made, .int mac]))]) hP hD [0] [] rfl rfl (by decide) (by decide) hk1 hFc hP1 hD1
  have hP := hP.sub (ws' := [(aF, .inr (0, [.ref aK, .int made, .int mac]))]) [0] rfl
  have hD := hD.sub (ws' := [(aF, .inr (0, [.ref aK, .int made, .int mac]))]) [0] (by decide) rfl
  generalize H1 = H at hP hS ⊢
  have hq := hq (∀ (H : Heap) (locs : List Loc) (ls : Array Slot), va_P (dC, dI) vwCl [(aF, .inr (0, [.ref aK, .int made, .int mac]))] H → va_D A [(aF, .inr (0, [.ref aK, .int made, .int mac]))] → va_S A s.heap H locs → lv_has ls 4 [] → W p l e ({ frames := 2, cells := 0, slots := 0, locals := 42 } : Room) s m ([.ref aF, .int x1, .int x2, .int x3] : List Value).toArray below meth c H locs 0 0 Q (F0 m 25 ls [])) (by
    intro  hq H locs ls hP hD hS hl
    refine lv_iconst (v := 0) hx hb dX0_hasLayer_25 (by decide) ?_
    have hz := hq.1
    have hq := hq.2
    exact hret _ _ _ _ _ dX0_hasLayer_26 hP hD hS hz hq)
  refine lv_if_eq (tgt := 25) hx hb dX0_hasLayer_6 (by decide) (fun hc => ?_) (fun hc => ?_)
  · have hq := hq.1 hc
    exact hq _ _ _ hP hD hS (lv_sub hl [] rfl)
  · have hq := hq.2 hc
    refine lv_iload_n hx hb dX0_hasLayer_9 rfl (lv_at hl 3 rfl) ?_
    refine lv_if_lt (tgt := 25) hx hb dX0_hasLayer_10 (by decide) (fun hc => ?_) (fun hc => ?_)
    · have hq := hq.1 hc
      exact hq _ _ _ hP hD hS (lv_sub hl [] rfl)
    · have hq := hq.2 hc
      refine lv_iload_n hx hb dX0_hasLayer_13 rfl (lv_at hl 3 rfl) ?_
      refine lv_aload_n hx hb dX0_hasLayer_14 rfl (lv_at hl 0 rfl) ?_
      have hPc := hP.sub (ws' := [(aF, .inr (0, [.ref aK, .int made, .int mac]))]) [0] rfl
      have hDc := hD.sub (ws' := [(aF, .inr (0, [.ref aK, .int made, .int mac]))]) [0] (by decide) rfl
      have hFc := va_free (wc := [(aF, .inr (0, [.ref aK, .int made, .int mac]))]) hD hS hA [0] rfl
      refine va_calli (va_runV (As := []) (rest := [.int x3]) ⟨hx, hb, hml, hown, hts⟩ (c_X0_layers l dC dI cI cC cS aF aK _ made mac hq) (cwV 0 hts gX0_hasLayer_X0_layers rfl rfl rfl (by decide +kernel) ⟨Nat.le_of_ble_eq_true rfl, Nat.le_of_ble_eq_true rfl⟩) (gn_preV hPc hK hN hDc (ci := 0) (q0 := 0) rfl rfl) rfl rfl hl.1 rfl (lv_room (Nat.le_of_ble_eq_true rfl)) dX0_hasLayer_15 ⟨Nat.zero_le _, Nat.zero_le _⟩) hS (fun q _ h => hFc q h) hFc (fun r_2 u t H1 locs ht hvm hq hB hz1 hk1 hS => ?_)
      obtain ⟨hP1, hK1, hD1⟩ := hB
      rw [ht] at hP1
      try dsimp only at hq
      obtain ⟨hP, hD⟩ := va_join (wr := []) (w1 := [(aF, .inr (0, [.ref aK, .int made, .int mac]))]) hP hD [0] [] rfl rfl (by decide) (by decide) hk1 hFc hP1 hD1
      have hP := hP.sub (ws' := [(aF, .inr (0, [.ref aK, .int made, .int mac]))]) [0] rfl
      have hD := hD.sub (ws' := [(aF, .inr (0, [.ref aK, .int made, .int mac]))]) [0] (by decide) rfl
      generalize H1 = H at hP hS ⊢
      refine lv_icmp_ge (tgt := 25) hx hb dX0_hasLayer_18 (by decide) (fun hc => ?_) (fun hc => ?_)
      · have hq := hq.1 hc
        exact hq _ _ _ hP hD hS (lv_sub hl [] rfl)
      · have hq := hq.2 hc
        refine lv_iconst (v := 1) hx hb dX0_hasLayer_21 (by decide) ?_
        refine lv_goto (tgt := 26) hx hb dX0_hasLayer_22 (by decide) ?_
        have hz := hq.1
        have hq := hq.2
        exact hret _ _ _ _ _ dX0_hasLayer_26 hP hD hS hz hq
set_option maxHeartbeats 4000000 in
set_option maxRecDepth 100000 in
theorem c_X0_placeAhead (l : Launch) (dC : Nat → ClassId) (dI : Nat → Nat → Nat) (cI cC cS : ClassId) (sz : Nat) (x0 : Int32) (x1 : Int32) (x2 : Int32) (x3 : Int32) {post : Int32 → Prop} (hq : wp_X0_placeAhead x0 x1 x2 x3 post) : Met l yX0_placeAhead wsX0_placeAhead ({ frames := 0, cells := 0, slots := 0, locals := 0 } : Room) (gn_Pre (dC, dI) cI cC cS [.int x0, .int x1, .int x2, .int x3] sz []) (va_Qi (fun (r : Int32) (u : Unit) => post r) (fun (u : Unit) t => va_P (dC, dI) vwCl [] t.heap ∧ va_K (dC, dI) vwCl (gn_tys cI cC cS) t ∧ va_D (va_A [] sz) []) (va_A [] sz)) 0 0 (va_A [] sz) := by
  unfold wp_X0_placeAhead at hq
  refine Met.ofW (cc := cX0_placeAhead) (maxL := 5) (ret := (some .int)) (by decide) rfl ?_
  intro p e s m args below meth c s₁ B hml hv
  obtain ⟨rfl, hsz, hP, hK, hN, hD0⟩ := hv
  have hx := B.exec
  have hb := B.bytes
  have hr := B.returns
  have hts := atoms_spec (ws := wsX0_placeAhead) B.pre
  have hown : s.vm.findClass RX0 = some m.cls := findClass_of_methodNamed B.named
  have hlocks := B.notSynchronized
  subst hsz
  have hD := hD0.self (sz := s.heap.size)
  generalize hAe : va_A [] s.heap.size = A at hD ⊢
  have hA : ∀ q : Nat, s.heap.size ≤ q → A q := fun q h => by rw [← hAe]; exact Or.inr h
  have hS : va_S A s.heap s.heap [] := va_S.rf
  have hl := lv_entry ([.int x0, .int x1, .int x2, .int x3] : List Value) (n := 5) (Nat.le_of_ble_eq_true rfl)
  rw [lg_entry_eq]
  generalize (lg_sl ([.int x0, .int x1, .int x2, .int x3] : List Value) ++ List.replicate (5 - (lg_sl ([.int x0, .int x1, .int x2, .int x3] : List Value)).length) Slot.unset).toArray = ls at hl ⊢
  have hl : lv_has ls 5 [(0, .int x0), (1, .int x1), (2, .int x2), (3, .int x3)] := hl
  refine gn_Q (hret := fun Q => ∀ (pc : Nat) (ls : Array Slot) (H : Heap) (locs : List Loc) (r : Int32) , decode cX0_placeAhead pc = .ok (.ireturn, 1) → va_P (dC, dI) vwCl [] H → va_D A [] → va_S A s.heap H locs → post r → W p l e ({ frames := 0, cells := 0, slots := 0, locals := 0 } : Room) s m ([.int x0, .int x1, .int x2, .int x3] : List Value).toArray below meth c H locs 0 0 Q (F0 m pc ls [.int r])) (fun Q hret => ?_) ?_
  rotate_left
  · intro pc ls H locs r hdg hP hD hS hpost
    exact W.iret (v := r) hx hb hr (fun t ht hW => ⟨⟨r, (), rfl, hpost, by rw [ht]; exact hP, va_K.moved hW.alike hK, hD⟩, hS.F ht⟩) hS.2.2 hdg
  refine lv_iload_n hx hb dX0_placeAhead_0 rfl (lv_at hl 2 rfl) ?_
  have hq := hq (fun (t_1 : Int32) => ∀ (H : Heap) (locs : List Loc) (ls : Array Slot), va_P (dC, dI) vwCl [] H → va_D A [] → va_S A s.heap H locs → lv_has ls 5 [(1, .int x1), (3, .int x3)] → W p l e ({ frames := 0, cells := 0, slots := 0, locals := 0 } : Room) s m ([.int x0, .int x1, .int x2, .int x3] : List Value).toArray below meth c H locs 0 0 Q (F0 m 11 ls [.int t_1])) (by
    intro t_1 hq H locs ls hP hD hS hl
    refine lv_istore (lv' := [(4, .int t_1), (1, .int x1), (3, .int x3)]) hx hb dX0_placeAhead_11 hl (by decide) rfl (fun ls hl => ?_)
    refine lv_iload_n hx hb dX0_placeAhead_13 rfl (lv_at hl 2 rfl) ?_
    refine lv_if_eq (tgt := 28) hx hb dX0_placeAhead_14 (by decide) (fun hc => ?_) (fun hc => ?_)
    · have hq := hq.1 hc
      refine lv_iload hx hb dX0_placeAhead_28 (lv_at hl 0 rfl) ?_
      exact hret _ _ _ _ _ dX0_placeAhead_30 hP hD hS hq
    · have hq := hq.2 hc
      refine lv_iconst (v := 2) hx hb dX0_placeAhead_17 (by decide) ?_
      refine lv_iload_n hx hb dX0_placeAhead_18 rfl (lv_at hl 1 rfl) ?_
      refine lv_imul hx hb dX0_placeAhead_19 ?_
      refine lv_iconst (v := 1) hx hb dX0_placeAhead_20 (by decide) ?_
      refine lv_isub hx hb dX0_placeAhead_21 ?_
      refine lv_iload hx hb dX0_placeAhead_22 (lv_at hl 0 rfl) ?_
      refine lv_isub hx hb dX0_placeAhead_24 ?_
      refine lv_goto (tgt := 30) hx hb dX0_placeAhead_25 (by decide) ?_
      exact hret _ _ _ _ _ dX0_placeAhead_30 hP hD hS hq)
  refine lv_if_eq (tgt := 10) hx hb dX0_placeAhead_1 (by decide) (fun hc => ?_) (fun hc => ?_)
  · have hq := hq.1 hc
    refine lv_iload_n hx hb dX0_placeAhead_10 rfl (lv_at hl 0 rfl) ?_
    exact hq _ _ _ hP hD hS (lv_sub hl [1, 3] rfl)
  · have hq := hq.2 hc
    refine lv_iload_n hx hb dX0_placeAhead_4 rfl (lv_at hl 1 rfl) ?_
    refine lv_iload_n hx hb dX0_placeAhead_5 rfl (lv_at hl 0 rfl) ?_
    refine lv_iadd hx hb dX0_placeAhead_6 ?_
    refine lv_goto (tgt := 11) hx hb dX0_placeAhead_7 (by decide) ?_
    exact hq _ _ _ hP hD hS (lv_sub hl [1, 3] rfl)
set_option maxHeartbeats 4000000 in
set_option maxRecDepth 100000 in
theorem c_X0_placeAfter (l : Launch) (dC : Nat → ClassId) (dI : Nat → Nat → Nat) (cI cC cS : ClassId) (sz : Nat) (x0 : Int32) (x1 : Int32) (x2 : Int32) (x3 : Int32) {post : Int32 → Prop} (hq : wp_X0_placeAfter x0 x1 x2 x3 post) : Met l yX0_placeAfter wsX0_placeAfter ({ frames := 0, cells := 0, slots := 0, locals := 0 } : Room) (gn_Pre (dC, dI) cI cC cS [.int x0, .int x1, .int x2, .int x3] sz []) (va_Qi (fun (r : Int32) (u : Unit) => post r) (fun (u : Unit) t => va_P (dC, dI) vwCl [] t.heap ∧ va_K (dC, dI) vwCl (gn_tys cI cC cS) t ∧ va_D (va_A [] sz) []) (va_A [] sz)) 0 0 (va_A [] sz) := by
  unfold wp_X0_placeAfter at hq
  refine Met.ofW (cc := cX0_placeAfter) (maxL := 5) (ret := (some .int)) (by decide) rfl ?_
  intro p e s m args below meth c s₁ B hml hv
  obtain ⟨rfl, hsz, hP, hK, hN, hD0⟩ := hv
  have hx := B.exec
  have hb := B.bytes
  have hr := B.returns
  have hts := atoms_spec (ws := wsX0_placeAfter) B.pre
  have hown : s.vm.findClass RX0 = some m.cls := findClass_of_methodNamed B.named
  have hlocks := B.notSynchronized
  subst hsz
  have hD := hD0.self (sz := s.heap.size)
  generalize hAe : va_A [] s.heap.size = A at hD ⊢
  have hA : ∀ q : Nat, s.heap.size ≤ q → A q := fun q h => by rw [← hAe]; exact Or.inr h
  have hS : va_S A s.heap s.heap [] := va_S.rf
  have hl := lv_entry ([.int x0, .int x1, .int x2, .int x3] : List Value) (n := 5) (Nat.le_of_ble_eq_true rfl)
  rw [lg_entry_eq]
  generalize (lg_sl ([.int x0, .int x1, .int x2, .int x3] : List Value) ++ List.replicate (5 - (lg_sl ([.int x0, .int x1, .int x2, .int x3] : List Value)).length) Slot.unset).toArray = ls at hl ⊢
  have hl : lv_has ls 5 [(0, .int x0), (1, .int x1), (2, .int x2), (3, .int x3)] := hl
  refine gn_Q (hret := fun Q => ∀ (pc : Nat) (ls : Array Slot) (H : Heap) (locs : List Loc) (r : Int32) , decode cX0_placeAfter pc = .ok (.ireturn, 1) → va_P (dC, dI) vwCl [] H → va_D A [] → va_S A s.heap H locs → post r → W p l e ({ frames := 0, cells := 0, slots := 0, locals := 0 } : Room) s m ([.int x0, .int x1, .int x2, .int x3] : List Value).toArray below meth c H locs 0 0 Q (F0 m pc ls [.int r])) (fun Q hret => ?_) ?_
  rotate_left
  · intro pc ls H locs r hdg hP hD hS hpost
    exact W.iret (v := r) hx hb hr (fun t ht hW => ⟨⟨r, (), rfl, hpost, by rw [ht]; exact hP, va_K.moved hW.alike hK, hD⟩, hS.F ht⟩) hS.2.2 hdg
  refine lv_iload_n hx hb dX0_placeAfter_0 rfl (lv_at hl 3 rfl) ?_
  have hq := hq (fun (t_1 : Int32) => ∀ (H : Heap) (locs : List Loc) (ls : Array Slot), va_P (dC, dI) vwCl [] H → va_D A [] → va_S A s.heap H locs → lv_has ls 5 [(1, .int x1), (2, .int x2)] → W p l e ({ frames := 0, cells := 0, slots := 0, locals := 0 } : Room) s m ([.int x0, .int x1, .int x2, .int x3] : List Value).toArray below meth c H locs 0 0 Q (F0 m 15 ls [.int t_1])) (by
    intro t_1 hq H locs ls hP hD hS hl
    refine lv_istore (lv' := [(4, .int t_1), (1, .int x1), (2, .int x2)]) hx hb dX0_placeAfter_15 hl (by decide) rfl (fun ls hl => ?_)
    refine lv_iload_n hx hb dX0_placeAfter_17 rfl (lv_at hl 2 rfl) ?_
    refine lv_if_eq (tgt := 28) hx hb dX0_placeAfter_18 (by decide) (fun hc => ?_) (fun hc => ?_)
    · have hq := hq.1 hc
      refine lv_iload hx hb dX0_placeAfter_28 (lv_at hl 0 rfl) ?_
      exact hret _ _ _ _ _ dX0_placeAfter_30 hP hD hS hq
    · have hq := hq.2 hc
      refine lv_iload hx hb dX0_placeAfter_21 (lv_at hl 0 rfl) ?_
      refine lv_iload_n hx hb dX0_placeAfter_23 rfl (lv_at hl 1 rfl) ?_
      refine lv_isub hx hb dX0_placeAfter_24 ?_
      refine lv_goto (tgt := 30) hx hb dX0_placeAfter_25 (by decide) ?_
      exact hret _ _ _ _ _ dX0_placeAfter_30 hP hD hS hq)
  refine lv_if_eq (tgt := 14) hx hb dX0_placeAfter_1 (by decide) (fun hc => ?_) (fun hc => ?_)
  · have hq := hq.1 hc
    refine lv_iload_n hx hb dX0_placeAfter_14 rfl (lv_at hl 0 rfl) ?_
    exact hq _ _ _ hP hD hS (lv_sub hl [1, 2] rfl)
  · have hq := hq.2 hc
    refine lv_iconst (v := 2) hx hb dX0_placeAfter_4 (by decide) ?_
    refine lv_iload_n hx hb dX0_placeAfter_5 rfl (lv_at hl 1 rfl) ?_
    refine lv_imul hx hb dX0_placeAfter_6 ?_
    refine lv_iconst (v := 1) hx hb dX0_placeAfter_7 (by decide) ?_
    refine lv_isub hx hb dX0_placeAfter_8 ?_
    refine lv_iload_n hx hb dX0_placeAfter_9 rfl (lv_at hl 0 rfl) ?_
    refine lv_isub hx hb dX0_placeAfter_10 ?_
    refine lv_goto (tgt := 15) hx hb dX0_placeAfter_11 (by decide) ?_
    exact hq _ _ _ hP hD hS (lv_sub hl [1, 2] rfl)
set_option maxRecDepth 20000 in
theorem kwX0_takeAllBack_15 : Cond.fieldLink RX0 15 "PunchedFolds$Folding" "made" "I" ∈ wsX0_takeAllBack := by decide +kernel
set_option maxRecDepth 20000 in
theorem iwX0_takeAllBack_X0 : ∀ w ∈ wsX00, w ∈ wsX0_takeAllBack := by decide +kernel
set_option maxRecDepth 20000 in
theorem kwX0_takeAllBack_19 : Cond.fieldLink RX0 19 "PunchedFolds$Folding" "madeAcross" "I" ∈ wsX0_takeAllBack := by decide +kernel
set_option maxHeartbeats 4000000 in
set_option maxRecDepth 100000 in
theorem c_X0_takeAllBack (l : Launch) (dC : Nat → ClassId) (dI : Nat → Nat → Nat) (cI cC cS : ClassId) (aF : Nat) (aK : Nat) (sz : Nat) (made : Int32) (mac : Int32) {post : Int32 → Int32 → Prop} (hq : wp_X0_takeAllBack made mac post) : Met l yX0_takeAllBack wsX0_takeAllBack ({ frames := 0, cells := 0, slots := 0, locals := 0 } : Room) (gn_Pre (dC, dI) cI cC cS [.ref aF] sz [(aF, .inr (0, [.ref aK, .int made, .int mac]))]) (va_Qv (fun (u : Int32 × Int32) => post u.1 u.2) (fun (u : Int32 × Int32) t => va_P (dC, dI) vwCl [(aF, .inr (0, [.ref aK, .int u.1, .int u.2]))] t.heap ∧ va_K (dC, dI) vwCl (gn_tys cI cC cS) t ∧ va_D (va_A [(aF, .inr (0, [.ref aK, .int made, .int mac]))] sz) [(aF, .inr (0, [.ref aK, .int u.1, .int u.2]))]) (va_A [(aF, .inr (0, [.ref aK, .int made, .int mac]))] sz)) 0 0 (va_A [(aF, .inr (0, [.ref aK, .int made, .int mac]))] sz) := by
  unfold wp_X0_takeAllBack at hq
  refine Met.ofW (cc := cX0_takeAllBack) (maxL := 1) (ret := none) (by decide) rfl ?_
  intro p e s m args below meth c s₁ B hml hv
  obtain ⟨rfl, hsz, hP, hK, hN, hD0⟩ := hv
  have hx := B.exec
  have hb := B.bytes
  have hr := B.returns
  have hts := atoms_spec (ws := wsX0_takeAllBack) B.pre
  have hown : s.vm.findClass RX0 = some m.cls := findClass_of_methodNamed B.named
  have hlocks := B.notSynchronized
  subst hsz
  have hD := hD0.self (sz := s.heap.size)
  generalize hAe : va_A [(aF, .inr (0, [.ref aK, .int made, .int mac]))] s.heap.size = A at hD ⊢
  have hA : ∀ q : Nat, s.heap.size ≤ q → A q := fun q h => by rw [← hAe]; exact Or.inr h
  have hS : va_S A s.heap s.heap [] := va_S.rf
  have hl := lv_entry ([.ref aF] : List Value) (n := 1) (Nat.le_of_ble_eq_true rfl)
  rw [lg_entry_eq]
  generalize (lg_sl ([.ref aF] : List Value) ++ List.replicate (1 - (lg_sl ([.ref aF] : List Value)).length) Slot.unset).toArray = ls at hl ⊢
  have hl : lv_has ls 1 [(0, .ref aF)] := hl
  refine gn_Q (hret := fun Q => ∀ (pc : Nat) (ls : Array Slot) (H : Heap) (locs : List Loc) (m_made : Int32) (m_mac : Int32), decode cX0_takeAllBack pc = .ok (.return_, 1) → va_P (dC, dI) vwCl [(aF, .inr (0, [.ref aK, .int m_made, .int m_mac]))] H → va_D A [(aF, .inr (0, [.ref aK, .int m_made, .int m_mac]))] → va_S A s.heap H locs → post m_made m_mac → W p l e ({ frames := 0, cells := 0, slots := 0, locals := 0 } : Room) s m ([.ref aF] : List Value).toArray below meth c H locs 0 0 Q (F0 m pc ls [])) (fun Q hret => ?_) ?_
  rotate_left
  · intro pc ls H locs m_made m_mac hdg hP hD hS hpost
    exact W.vret hx hb hr (fun t ht hW => ⟨⟨(m_made, m_mac), rfl, hpost, by rw [ht]; exact hP, va_K.moved hW.alike hK, hD⟩, hS.F ht⟩) hS.2.2 hdg
  refine lv_aload_n hx hb dX0_takeAllBack_0 rfl (lv_at hl 0 rfl) ?_
  refine lv_iconst (v := 0) hx hb dX0_takeAllBack_1 (by decide) ?_
  refine va_put (D := (dC, dI)) (ci := 0) (v := .int (0 : Int32)) (ty := .int) (C := RX0) (T := TX0) (N := 3) hx hb hts iwX0_takeAllBack_X0 tyX0 tyX0_ok nmX0 hown hK hP hD hS 0 rfl rfl 1 (by decide) (hts _ kwX0_takeAllBack_15) (fun _ h9 => h9) rfl (by decide +kernel) rfl rfl (Nat.le_of_ble_eq_true rfl) dX0_takeAllBack_2 (fun H locs hP hD hS => ?_)
  have hP : va_P (dC, dI) vwCl [(aF, .inr (0, [.ref aK, .int (0 : Int32), .int mac]))] H := hP
  have hD : va_D A [(aF, .inr (0, [.ref aK, .int (0 : Int32), .int mac]))] := hD
  refine lv_aload_n hx hb dX0_takeAllBack_5 rfl (lv_at hl 0 rfl) ?_
  refine lv_iconst (v := 0) hx hb dX0_takeAllBack_6 (by decide) ?_
  refine va_put (D := (dC, dI)) (ci := 0) (v := .int (0 : Int32)) (ty := .int) (C := RX0) (T := TX0) (N := 3) hx hb hts iwX0_takeAllBack_X0 tyX0 tyX0_ok nmX0 hown hK hP hD hS 0 rfl rfl 2 (by decide) (hts _ kwX0_takeAllBack_19) (fun _ h9 => h9) rfl (by decide +kernel) rfl rfl (Nat.le_of_ble_eq_true rfl) dX0_takeAllBack_7 (fun H locs hP hD hS => ?_)
  have hP : va_P (dC, dI) vwCl [(aF, .inr (0, [.ref aK, .int (0 : Int32), .int (0 : Int32)]))] H := hP
  have hD : va_D A [(aF, .inr (0, [.ref aK, .int (0 : Int32), .int (0 : Int32)]))] := hD
  exact hret _ _ _ _ _ _ dX0_takeAllBack_10 hP hD hS hq
set_option maxRecDepth 20000 in
theorem kwX0_addFold_15 : Cond.fieldLink RX0 15 "PunchedFolds$Folding" "made" "I" ∈ wsX0_addFold := by decide +kernel
set_option maxRecDepth 20000 in
theorem iwX0_addFold_X0 : ∀ w ∈ wsX00, w ∈ wsX0_addFold := by decide +kernel
set_option maxRecDepth 20000 in
theorem kwX0_addFold_9 : Cond.fieldLink RX0 9 "PunchedFolds$Folding" "kinds" "[I" ∈ wsX0_addFold := by decide +kernel
set_option maxRecDepth 20000 in
theorem kwX0_addFold_19 : Cond.fieldLink RX0 19 "PunchedFolds$Folding" "madeAcross" "I" ∈ wsX0_addFold := by decide +kernel
set_option maxHeartbeats 4000000 in
set_option maxRecDepth 100000 in
theorem c_X0_addFold (l : Launch) (dC : Nat → ClassId) (dI : Nat → Nat → Nat) (cI cC cS : ClassId) (aF : Nat) (aK : Nat) (sz : Nat) (made : Int32) (mac : Int32) (ks : Nat → Int32) (x1 : Int32) {post : Int32 → Int32 → (Nat → Int32) → Prop} (hq : wp_X0_addFold made mac ks x1 post) : Met l yX0_addFold wsX0_addFold ({ frames := 1, cells := 0, slots := 0, locals := 20 } : Room) (gn_Pre (dC, dI) cI cC cS [.ref aF, .int x1] sz [(aF, .inr (0, [.ref aK, .int made, .int mac])), (aK, .inl (cI, 6, .inl ks))]) (va_Qv (fun (u : Int32 × Int32 × (Nat → Int32)) => post u.1 u.2.1 u.2.2) (fun (u : Int32 × Int32 × (Nat → Int32)) t => va_P (dC, dI) vwCl [(aF, .inr (0, [.ref aK, .int u.1, .int u.2.1])), (aK, .inl (cI, 6, .inl u.2.2))] t.heap ∧ va_K (dC, dI) vwCl (gn_tys cI cC cS) t ∧ va_D (va_A [(aF, .inr (0, [.ref aK, .int made, .int mac])), (aK, .inl (cI, 6, .inl ks))] sz) [(aF, .inr (0, [.ref aK, .int u.1, .int u.2.1])), (aK, .inl (cI, 6, .inl u.2.2))]) (va_A [(aF, .inr (0, [.ref aK, .int made, .int mac])), (aK, .inl (cI, 6, .inl ks))] sz)) 0 0 (va_A [(aF, .inr (0, [.ref aK, .int made, .int mac])), (aK, .inl (cI, 6, .inl ks))] sz) := by
  unfold wp_X0_addFold at hq
  refine Met.ofW (cc := cX0_addFold) (maxL := 2) (ret := none) (by decide) rfl ?_
  intro p e s m args below meth c s₁ B hml hv
  obtain ⟨rfl, hsz, hP, hK, hN, hD0⟩ := hv
  have hx := B.exec
  have hb := B.bytes
  have hr := B.returns
  have hts := atoms_spec (ws := wsX0_addFold) B.pre
  have hown : s.vm.findClass RX0 = some m.cls := findClass_of_methodNamed B.named
  have hlocks := B.notSynchronized
  subst hsz
  have hD := hD0.self (sz := s.heap.size)
  generalize hAe : va_A [(aF, .inr (0, [.ref aK, .int made, .int mac])), (aK, .inl (cI, 6, .inl ks))] s.heap.size = A at hD ⊢
  have hA : ∀ q : Nat, s.heap.size ≤ q → A q := fun q h => by rw [← hAe]; exact Or.inr h
  have hS : va_S A s.heap s.heap [] := va_S.rf
  have hl := lv_entry ([.ref aF, .int x1] : List Value) (n := 2) (Nat.le_of_ble_eq_true rfl)
  rw [lg_entry_eq]
  generalize (lg_sl ([.ref aF, .int x1] : List Value) ++ List.replicate (2 - (lg_sl ([.ref aF, .int x1] : List Value)).length) Slot.unset).toArray = ls at hl ⊢
  have hl : lv_has ls 2 [(0, .ref aF), (1, .int x1)] := hl
  refine gn_Q (hret := fun Q => ∀ (pc : Nat) (ls : Array Slot) (H : Heap) (locs : List Loc) (m_made : Int32) (m_mac : Int32) (m_ks : Nat → Int32), decode cX0_addFold pc = .ok (.return_, 1) → va_P (dC, dI) vwCl [(aF, .inr (0, [.ref aK, .int m_made, .int m_mac])), (aK, .inl (cI, 6, .inl m_ks))] H → va_D A [(aF, .inr (0, [.ref aK, .int m_made, .int m_mac])), (aK, .inl (cI, 6, .inl m_ks))] → va_S A s.heap H locs → post m_made m_mac m_ks → W p l e ({ frames := 1, cells := 0, slots := 0, locals := 20 } : Room) s m ([.ref aF, .int x1] : List Value).toArray below meth c H locs 0 0 Q (F0 m pc ls [])) (fun Q hret => ?_) ?_
  rotate_left
  · intro pc ls H locs m_made m_mac m_ks hdg hP hD hS hpost
    exact W.vret hx hb hr (fun t ht hW => ⟨⟨(m_made, m_mac, m_ks), rfl, hpost, by rw [ht]; exact hP, va_K.moved hW.alike hK, hD⟩, hS.F ht⟩) hS.2.2 hdg
  refine lv_aload_n hx hb dX0_addFold_0 rfl (lv_at hl 0 rfl) ?_
  refine va_get (D := (dC, dI)) (ci := 0) (v := .int made) (C := RX0) (T := TX0) (N := 3) hx hb hts iwX0_addFold_X0 hown hK hP 0 rfl rfl 1 (by decide) (hts _ kwX0_addFold_15) (fun _ h9 => h9) rfl dX0_addFold_1 ?_
  refine lv_if_lt (tgt := 60) hx hb dX0_addFold_4 (by decide) (fun hc => ?_) (fun hc => ?_)
  · have hq := hq.1 hc
    exact hret _ _ _ _ _ _ _ dX0_addFold_60 hP hD hS hq
  · have hq := hq.2 hc
    refine lv_aload_n hx hb dX0_addFold_7 rfl (lv_at hl 0 rfl) ?_
    refine va_get (D := (dC, dI)) (ci := 0) (v := .int made) (C := RX0) (T := TX0) (N := 3) hx hb hts iwX0_addFold_X0 hown hK hP 0 rfl rfl 1 (by decide) (hts _ kwX0_addFold_15) (fun _ h9 => h9) rfl dX0_addFold_8 ?_
    refine lv_aload_n hx hb dX0_addFold_11 rfl (lv_at hl 0 rfl) ?_
    refine va_get (D := (dC, dI)) (ci := 0) (v := .ref aK) (C := RX0) (T := TX0) (N := 3) hx hb hts iwX0_addFold_X0 hown hK hP 0 rfl rfl 0 (by decide) (hts _ kwX0_addFold_9) (fun _ h9 => h9) rfl dX0_addFold_12 ?_
    refine va_alen hx hb hK hP 1 0 rfl rfl (v := 6) rfl dX0_addFold_15 ?_
    refine lv_icmp_ge (tgt := 60) hx hb dX0_addFold_16 (by decide) (fun hc => ?_) (fun hc => ?_)
    · have hq := hq.1 hc
      exact hret _ _ _ _ _ _ _ dX0_addFold_60 hP hD hS hq
    · have hq := hq.2 hc
      refine lv_aload_n hx hb dX0_addFold_19 rfl (lv_at hl 0 rfl) ?_
      refine va_get (D := (dC, dI)) (ci := 0) (v := .ref aK) (C := RX0) (T := TX0) (N := 3) hx hb hts iwX0_addFold_X0 hown hK hP 0 rfl rfl 0 (by decide) (hts _ kwX0_addFold_9) (fun _ h9 => h9) rfl dX0_addFold_20 ?_
      refine lv_aload_n hx hb dX0_addFold_23 rfl (lv_at hl 0 rfl) ?_
      refine va_get (D := (dC, dI)) (ci := 0) (v := .int made) (C := RX0) (T := TX0) (N := 3) hx hb hts iwX0_addFold_X0 hown hK hP 0 rfl rfl 1 (by decide) (hts _ kwX0_addFold_15) (fun _ h9 => h9) rfl dX0_addFold_24 ?_
      refine lv_iload_n hx hb dX0_addFold_27 rfl (lv_at hl 1 rfl) ?_
      have hin := hq.1
      have hq := hq.2
      refine va_iast hx hb hK hP hD hS 1 0 rfl rfl hin dX0_addFold_28 (fun H locs hP hD hS => ?_)
      have hP : va_P (dC, dI) vwCl [(aF, .inr (0, [.ref aK, .int made, .int mac])), (aK, .inl (cI, 6, .inl (upd ks (made).toNatClampNeg x1)))] H := hP
      have hD : va_D A [(aF, .inr (0, [.ref aK, .int made, .int mac])), (aK, .inl (cI, 6, .inl (upd ks (made).toNatClampNeg x1)))] := hD
      refine lv_aload_n hx hb dX0_addFold_29 rfl (lv_at hl 0 rfl) ?_
      refine lv_dup hx hb dX0_addFold_30 rfl ?_
      refine va_get (D := (dC, dI)) (ci := 0) (v := .int made) (C := RX0) (T := TX0) (N := 3) hx hb hts iwX0_addFold_X0 hown hK hP 0 rfl rfl 1 (by decide) (hts _ kwX0_addFold_15) (fun _ h9 => h9) rfl dX0_addFold_31 ?_
      refine lv_iconst (v := 1) hx hb dX0_addFold_34 (by decide) ?_
      refine lv_iadd hx hb dX0_addFold_35 ?_
      refine va_put (D := (dC, dI)) (ci := 0) (v := .int (made + (1 : Int32))) (ty := .int) (C := RX0) (T := TX0) (N := 3) hx hb hts iwX0_addFold_X0 tyX0 tyX0_ok nmX0 hown hK hP hD hS 0 rfl rfl 1 (by decide) (hts _ kwX0_addFold_15) (fun _ h9 => h9) rfl (by decide +kernel) rfl rfl (Nat.le_of_ble_eq_true rfl) dX0_addFold_36 (fun H locs hP hD hS => ?_)
      have hP : va_P (dC, dI) vwCl [(aF, .inr (0, [.ref aK, .int (made + (1 : Int32)), .int mac])), (aK, .inl (cI, 6, .inl (upd ks (made).toNatClampNeg x1)))] H := hP
      have hD : va_D A [(aF, .inr (0, [.ref aK, .int (made + (1 : Int32)), .int mac])), (aK, .inl (cI, 6, .inl (upd ks (made).toNatClampNeg x1)))] := hD
      refine lv_aload_n hx hb dX0_addFold_39 rfl (lv_at hl 0 rfl) ?_
      refine lv_dup hx hb dX0_addFold_40 rfl ?_
      refine va_get (D := (dC, dI)) (ci := 0) (v := .int mac) (C := RX0) (T := TX0) (N := 3) hx hb hts iwX0_addFold_X0 hown hK hP 0 rfl rfl 2 (by decide) (hts _ kwX0_addFold_19) (fun _ h9 => h9) rfl dX0_addFold_41 ?_
      refine lv_iload_n hx hb dX0_addFold_44 rfl (lv_at hl 1 rfl) ?_
      have hPc := hP.sub (ws' := []) [] rfl
      have hDc := hD.sub (ws' := []) [] (by decide) rfl
      have hFc := va_free (wc := []) hD hS hA [] rfl
      refine va_calli (va_runS (As := [.int x1]) (rest := [.int mac, .ref aF]) ⟨hx, hb, hml, hown, hts⟩ (c_X0_isAcross l dC dI cI cC cS _ x1 hq) (va_cwS 1 hts gX0_addFold_X0_isAcross rfl rfl rfl (by decide +kernel) ⟨Nat.le_of_ble_eq_true rfl, Nat.le_of_ble_eq_true rfl⟩) (gn_preS hPc hK hN hDc) rfl rfl hl.1 rfl (lv_room (Nat.le_of_ble_eq_true rfl)) dX0_addFold_45 ⟨Nat.zero_le _, Nat.zero_le _⟩) hS (fun q _ h => hFc q h) hFc (fun r_1 u t H1 locs ht hvm hq hB hz1 hk1 hS => ?_)
      obtain ⟨hP1, hK1, hD1⟩ := hB
      rw [ht] at hP1
      try dsimp only at hq
      obtain ⟨hP, hD⟩ := va_join (wr := [(aF, .inr (0, [.ref aK, .int (made + (1 : Int32)), .int mac])), (aK, .inl (cI, 6, .inl (upd ks (made).toNatClampNeg x1)))]) (w1 := []) hP hD [] [0, 1] rfl rfl (by decide) (by decide) hk1 hFc hP1 hD1
      have hP := hP.sub (ws' := [(aF, .inr (0, [.ref aK, .int (made + (1 : Int32)), .int mac])), (aK, .inl (cI, 6, .inl (upd ks (made).toNatClampNeg x1)))]) [0, 1] rfl
      have hD := hD.sub (ws' := [(aF, .inr (0, [.ref aK, .int (made + (1 : Int32)), .int mac])), (aK, .inl (cI, 6, .inl (upd ks (made).toNatClampNeg x1)))]) [0, 1] (by decide) rfl
      generalize H1 = H at hP hS ⊢
      have hq := hq (fun (t_2 : Int32) => ∀ (H : Heap) (locs : List Loc) (ls : Array Slot), va_P (dC, dI) vwCl [(aF, .inr (0, [.ref aK, .int (made + (1 : Int32)), .int mac])), (aK, .inl (cI, 6, .inl (upd ks (made).toNatClampNeg x1)))] H → va_D A [(aF, .inr (0, [.ref aK, .int (made + (1 : Int32)), .int mac])), (aK, .inl (cI, 6, .inl (upd ks (made).toNatClampNeg x1)))] → va_S A s.heap H locs → lv_has ls 2 [] → W p l e ({ frames := 1, cells := 0, slots := 0, locals := 20 } : Room) s m ([.ref aF, .int x1] : List Value).toArray below meth c H locs 0 0 Q (F0 m 56 ls [.int t_2, .int mac, .ref aF])) (by
        intro t_2 hq H locs ls hP hD hS hl
        refine lv_iadd hx hb dX0_addFold_56 ?_
        refine va_put (D := (dC, dI)) (ci := 0) (v := .int (mac + t_2)) (ty := .int) (C := RX0) (T := TX0) (N := 3) hx hb hts iwX0_addFold_X0 tyX0 tyX0_ok nmX0 hown hK hP hD hS 0 rfl rfl 2 (by decide) (hts _ kwX0_addFold_19) (fun _ h9 => h9) rfl (by decide +kernel) rfl rfl (Nat.le_of_ble_eq_true rfl) dX0_addFold_57 (fun H locs hP hD hS => ?_)
        have hP : va_P (dC, dI) vwCl [(aF, .inr (0, [.ref aK, .int (made + (1 : Int32)), .int (mac + t_2)])), (aK, .inl (cI, 6, .inl (upd ks (made).toNatClampNeg x1)))] H := hP
        have hD : va_D A [(aF, .inr (0, [.ref aK, .int (made + (1 : Int32)), .int (mac + t_2)])), (aK, .inl (cI, 6, .inl (upd ks (made).toNatClampNeg x1)))] := hD
        exact hret _ _ _ _ _ _ _ dX0_addFold_60 hP hD hS hq)
      refine lv_if_eq (tgt := 55) hx hb dX0_addFold_48 (by decide) (fun hc => ?_) (fun hc => ?_)
      · have hq := hq.1 hc
        refine lv_iconst (v := 0) hx hb dX0_addFold_55 (by decide) ?_
        exact hq _ _ _ hP hD hS (lv_sub hl [] rfl)
      · have hq := hq.2 hc
        refine lv_iconst (v := 1) hx hb dX0_addFold_51 (by decide) ?_
        refine lv_goto (tgt := 56) hx hb dX0_addFold_52 (by decide) ?_
        exact hq _ _ _ hP hD hS (lv_sub hl [] rfl)
set_option maxRecDepth 20000 in
theorem kwX0_takeLatestBack_15 : Cond.fieldLink RX0 15 "PunchedFolds$Folding" "made" "I" ∈ wsX0_takeLatestBack := by decide +kernel
set_option maxRecDepth 20000 in
theorem iwX0_takeLatestBack_X0 : ∀ w ∈ wsX00, w ∈ wsX0_takeLatestBack := by decide +kernel
set_option maxRecDepth 20000 in
theorem kwX0_takeLatestBack_19 : Cond.fieldLink RX0 19 "PunchedFolds$Folding" "madeAcross" "I" ∈ wsX0_takeLatestBack := by decide +kernel
set_option maxHeartbeats 4000000 in
set_option maxRecDepth 100000 in
theorem c_X0_takeLatestBack (l : Launch) (dC : Nat → ClassId) (dI : Nat → Nat → Nat) (cI cC cS : ClassId) (aF : Nat) (aK : Nat) (sz : Nat) (made : Int32) (mac : Int32) (ks : Nat → Int32) {post : Int32 → Int32 → Int32 → Prop} (hq : wp_X0_takeLatestBack made mac ks post) : Met l yX0_takeLatestBack wsX0_takeLatestBack ({ frames := 1, cells := 0, slots := 0, locals := 21 } : Room) (gn_Pre (dC, dI) cI cC cS [.ref aF] sz [(aF, .inr (0, [.ref aK, .int made, .int mac])), (aK, .inl (cI, 6, .inl ks))]) (va_Qi (fun (r : Int32) (u : Int32 × Int32) => post r u.1 u.2) (fun (u : Int32 × Int32) t => va_P (dC, dI) vwCl [(aF, .inr (0, [.ref aK, .int u.1, .int u.2])), (aK, .inl (cI, 6, .inl ks))] t.heap ∧ va_K (dC, dI) vwCl (gn_tys cI cC cS) t ∧ va_D (va_A [(aF, .inr (0, [.ref aK, .int made, .int mac])), (aK, .inl (cI, 6, .inl ks))] sz) [(aF, .inr (0, [.ref aK, .int u.1, .int u.2])), (aK, .inl (cI, 6, .inl ks))]) (va_A [(aF, .inr (0, [.ref aK, .int made, .int mac])), (aK, .inl (cI, 6, .inl ks))] sz)) 0 0 (va_A [(aF, .inr (0, [.ref aK, .int made, .int mac])), (aK, .inl (cI, 6, .inl ks))] sz) := by
  unfold wp_X0_takeLatestBack at hq
  refine Met.ofW (cc := cX0_takeLatestBack) (maxL := 2) (ret := (some .int)) (by decide) rfl ?_
  intro p e s m args below meth c s₁ B hml hv
  obtain ⟨rfl, hsz, hP, hK, hN, hD0⟩ := hv
  have hx := B.exec
  have hb := B.bytes
  have hr := B.returns
  have hts := atoms_spec (ws := wsX0_takeLatestBack) B.pre
  have hown : s.vm.findClass RX0 = some m.cls := findClass_of_methodNamed B.named
  have hlocks := B.notSynchronized
  subst hsz
  have hD := hD0.self (sz := s.heap.size)
  generalize hAe : va_A [(aF, .inr (0, [.ref aK, .int made, .int mac])), (aK, .inl (cI, 6, .inl ks))] s.heap.size = A at hD ⊢
  have hA : ∀ q : Nat, s.heap.size ≤ q → A q := fun q h => by rw [← hAe]; exact Or.inr h
  have hS : va_S A s.heap s.heap [] := va_S.rf
  have hl := lv_entry ([.ref aF] : List Value) (n := 2) (Nat.le_of_ble_eq_true rfl)
  rw [lg_entry_eq]
  generalize (lg_sl ([.ref aF] : List Value) ++ List.replicate (2 - (lg_sl ([.ref aF] : List Value)).length) Slot.unset).toArray = ls at hl ⊢
  have hl : lv_has ls 2 [(0, .ref aF)] := hl
  refine gn_Q (hret := fun Q => ∀ (pc : Nat) (ls : Array Slot) (H : Heap) (locs : List Loc) (r : Int32) (m_made : Int32) (m_mac : Int32), decode cX0_takeLatestBack pc = .ok (.ireturn, 1) → va_P (dC, dI) vwCl [(aF, .inr (0, [.ref aK, .int m_made, .int m_mac])), (aK, .inl (cI, 6, .inl ks))] H → va_D A [(aF, .inr (0, [.ref aK, .int m_made, .int m_mac])), (aK, .inl (cI, 6, .inl ks))] → va_S A s.heap H locs → post r m_made m_mac → W p l e ({ frames := 1, cells := 0, slots := 0, locals := 21 } : Room) s m ([.ref aF] : List Value).toArray below meth c H locs 0 0 Q (F0 m pc ls [.int r])) (fun Q hret => ?_) ?_
  rotate_left
  · intro pc ls H locs r m_made m_mac hdg hP hD hS hpost
    exact W.iret (v := r) hx hb hr (fun t ht hW => ⟨⟨r, (m_made, m_mac), rfl, hpost, by rw [ht]; exact hP, va_K.moved hW.alike hK, hD⟩, hS.F ht⟩) hS.2.2 hdg
  refine lv_aload_n hx hb dX0_takeLatestBack_0 rfl (lv_at hl 0 rfl) ?_
  refine lv_aload_n hx hb dX0_takeLatestBack_1 rfl (lv_at hl 0 rfl) ?_
  refine va_get (D := (dC, dI)) (ci := 0) (v := .int made) (C := RX0) (T := TX0) (N := 3) hx hb hts iwX0_takeLatestBack_X0 hown hK hP 0 rfl rfl 1 (by decide) (hts _ kwX0_takeLatestBack_15) (fun _ h9 => h9) rfl dX0_takeLatestBack_2 ?_
  refine lv_iconst (v := 1) hx hb dX0_takeLatestBack_5 (by decide) ?_
  refine lv_isub hx hb dX0_takeLatestBack_6 ?_
  have hPc := hP.sub (ws' := [(aF, .inr (0, [.ref aK, .int made, .int mac])), (aK, .inl (cI, 6, .inl ks))]) [0, 1] rfl
  have hDc := hD.sub (ws' := [(aF, .inr (0, [.ref aK, .int made, .int mac])), (aK, .inl (cI, 6, .inl ks))]) [0, 1] (by decide) rfl
  have hFc := va_free (wc := [(aF, .inr (0, [.ref aK, .int made, .int mac])), (aK, .inl (cI, 6, .inl ks))]) hD hS hA [0, 1] rfl
  refine va_calli (va_runV (As := [.int (made - (1 : Int32))]) (rest := []) ⟨hx, hb, hml, hown, hts⟩ (c_X0_kindOf l dC dI cI cC cS aF aK _ made mac ks (made - (1 : Int32)) hq) (cwV 1 hts gX0_takeLatestBack_X0_kindOf rfl rfl rfl (by decide +kernel) ⟨Nat.le_of_ble_eq_true rfl, Nat.le_of_ble_eq_true rfl⟩) (gn_preV hPc hK hN hDc (ci := 0) (q0 := 0) rfl rfl) rfl rfl hl.1 rfl (lv_room (Nat.le_of_ble_eq_true rfl)) dX0_takeLatestBack_7 ⟨Nat.zero_le _, Nat.zero_le _⟩) hS (fun q _ h => hFc q h) hFc (fun r_1 u t H1 locs ht hvm hq hB hz1 hk1 hS => ?_)
  obtain ⟨hP1, hK1, hD1⟩ := hB
  rw [ht] at hP1
  try dsimp only at hq
  obtain ⟨hP, hD⟩ := va_join (wr := []) (w1 := [(aF, .inr (0, [.ref aK, .int made, .int mac])), (aK, .inl (cI, 6, .inl ks))]) hP hD [0, 1] [] rfl rfl (by decide) (by decide) hk1 hFc hP1 hD1
  have hP := hP.sub (ws' := [(aF, .inr (0, [.ref aK, .int made, .int mac])), (aK, .inl (cI, 6, .inl ks))]) [0, 1] rfl
  have hD := hD.sub (ws' := [(aF, .inr (0, [.ref aK, .int made, .int mac])), (aK, .inl (cI, 6, .inl ks))]) [0, 1] (by decide) rfl
  generalize H1 = H at hP hS ⊢
  refine lv_istore_n (lv' := [(1, .int r_1), (0, .ref aF)]) hx hb dX0_takeLatestBack_10 rfl hl (by decide) rfl (fun ls hl => ?_)
  refine lv_aload_n hx hb dX0_takeLatestBack_11 rfl (lv_at hl 1 rfl) ?_
  refine lv_dup hx hb dX0_takeLatestBack_12 rfl ?_
  refine va_get (D := (dC, dI)) (ci := 0) (v := .int made) (C := RX0) (T := TX0) (N := 3) hx hb hts iwX0_takeLatestBack_X0 hown hK hP 0 rfl rfl 1 (by decide) (hts _ kwX0_takeLatestBack_15) (fun _ h9 => h9) rfl dX0_takeLatestBack_13 ?_
  refine lv_iconst (v := 1) hx hb dX0_takeLatestBack_16 (by decide) ?_
  refine lv_isub hx hb dX0_takeLatestBack_17 ?_
  refine va_put (D := (dC, dI)) (ci := 0) (v := .int (made - (1 : Int32))) (ty := .int) (C := RX0) (T := TX0) (N := 3) hx hb hts iwX0_takeLatestBack_X0 tyX0 tyX0_ok nmX0 hown hK hP hD hS 0 rfl rfl 1 (by decide) (hts _ kwX0_takeLatestBack_15) (fun _ h9 => h9) rfl (by decide +kernel) rfl rfl (Nat.le_of_ble_eq_true rfl) dX0_takeLatestBack_18 (fun H locs hP hD hS => ?_)
  have hP : va_P (dC, dI) vwCl [(aF, .inr (0, [.ref aK, .int (made - (1 : Int32)), .int mac])), (aK, .inl (cI, 6, .inl ks))] H := hP
  have hD : va_D A [(aF, .inr (0, [.ref aK, .int (made - (1 : Int32)), .int mac])), (aK, .inl (cI, 6, .inl ks))] := hD
  refine lv_aload_n hx hb dX0_takeLatestBack_21 rfl (lv_at hl 1 rfl) ?_
  refine lv_dup hx hb dX0_takeLatestBack_22 rfl ?_
  refine va_get (D := (dC, dI)) (ci := 0) (v := .int mac) (C := RX0) (T := TX0) (N := 3) hx hb hts iwX0_takeLatestBack_X0 hown hK hP 0 rfl rfl 2 (by decide) (hts _ kwX0_takeLatestBack_19) (fun _ h9 => h9) rfl dX0_takeLatestBack_23 ?_
  refine lv_iload_n hx hb dX0_takeLatestBack_26 rfl (lv_at hl 0 rfl) ?_
  have hPc := hP.sub (ws' := []) [] rfl
  have hDc := hD.sub (ws' := []) [] (by decide) rfl
  have hFc := va_free (wc := []) hD hS hA [] rfl
  refine va_calli (va_runS (As := [.int r_1]) (rest := [.int mac, .ref aF]) ⟨hx, hb, hml, hown, hts⟩ (c_X0_isAcross l dC dI cI cC cS _ r_1 hq) (va_cwS 1 hts gX0_takeLatestBack_X0_isAcross rfl rfl rfl (by decide +kernel) ⟨Nat.le_of_ble_eq_true rfl, Nat.le_of_ble_eq_true rfl⟩) (gn_preS hPc hK hN hDc) rfl rfl hl.1 rfl (lv_room (Nat.le_of_ble_eq_true rfl)) dX0_takeLatestBack_27 ⟨Nat.zero_le _, Nat.zero_le _⟩) hS (fun q _ h => hFc q h) hFc (fun r_2 u t H1 locs ht hvm hq hB hz1 hk1 hS => ?_)
  obtain ⟨hP1, hK1, hD1⟩ := hB
  rw [ht] at hP1
  try dsimp only at hq
  obtain ⟨hP, hD⟩ := va_join (wr := [(aF, .inr (0, [.ref aK, .int (made - (1 : Int32)), .int mac])), (aK, .inl (cI, 6, .inl ks))]) (w1 := []) hP hD [] [0, 1] rfl rfl (by decide) (by decide) hk1 hFc hP1 hD1
  have hP := hP.sub (ws' := [(aF, .inr (0, [.ref aK, .int (made - (1 : Int32)), .int mac])), (aK, .inl (cI, 6, .inl ks))]) [0, 1] rfl
  have hD := hD.sub (ws' := [(aF, .inr (0, [.ref aK, .int (made - (1 : Int32)), .int mac])), (aK, .inl (cI, 6, .inl ks))]) [0, 1] (by decide) rfl
  generalize H1 = H at hP hS ⊢
  have hq := hq (fun (t_3 : Int32) => ∀ (H : Heap) (locs : List Loc) (ls : Array Slot), va_P (dC, dI) vwCl [(aF, .inr (0, [.ref aK, .int (made - (1 : Int32)), .int mac])), (aK, .inl (cI, 6, .inl ks))] H → va_D A [(aF, .inr (0, [.ref aK, .int (made - (1 : Int32)), .int mac])), (aK, .inl (cI, 6, .inl ks))] → va_S A s.heap H locs → lv_has ls 2 [(1, .int r_1)] → W p l e ({ frames := 1, cells := 0, slots := 0, locals := 21 } : Room) s m ([.ref aF] : List Value).toArray below meth c H locs 0 0 Q (F0 m 38 ls [.int t_3, .int mac, .ref aF])) (by
    intro t_3 hq H locs ls hP hD hS hl
    refine lv_isub hx hb dX0_takeLatestBack_38 ?_
    refine va_put (D := (dC, dI)) (ci := 0) (v := .int (mac - t_3)) (ty := .int) (C := RX0) (T := TX0) (N := 3) hx hb hts iwX0_takeLatestBack_X0 tyX0 tyX0_ok nmX0 hown hK hP hD hS 0 rfl rfl 2 (by decide) (hts _ kwX0_takeLatestBack_19) (fun _ h9 => h9) rfl (by decide +kernel) rfl rfl (Nat.le_of_ble_eq_true rfl) dX0_takeLatestBack_39 (fun H locs hP hD hS => ?_)
    have hP : va_P (dC, dI) vwCl [(aF, .inr (0, [.ref aK, .int (made - (1 : Int32)), .int (mac - t_3)])), (aK, .inl (cI, 6, .inl ks))] H := hP
    have hD : va_D A [(aF, .inr (0, [.ref aK, .int (made - (1 : Int32)), .int (mac - t_3)])), (aK, .inl (cI, 6, .inl ks))] := hD
    refine lv_iload_n hx hb dX0_takeLatestBack_42 rfl (lv_at hl 0 rfl) ?_
    exact hret _ _ _ _ _ _ _ dX0_takeLatestBack_43 hP hD hS hq)
  refine lv_if_eq (tgt := 37) hx hb dX0_takeLatestBack_30 (by decide) (fun hc => ?_) (fun hc => ?_)
  · have hq := hq.1 hc
    refine lv_iconst (v := 0) hx hb dX0_takeLatestBack_37 (by decide) ?_
    exact hq _ _ _ hP hD hS (lv_sub hl [0] rfl)
  · have hq := hq.2 hc
    refine lv_iconst (v := 1) hx hb dX0_takeLatestBack_33 (by decide) ?_
    refine lv_goto (tgt := 38) hx hb dX0_takeLatestBack_34 (by decide) ?_
    exact hq _ _ _ hP hD hS (lv_sub hl [0] rfl)
set_option maxHeartbeats 4000000 in
set_option maxRecDepth 100000 in
theorem c_X0_foldAnew (l : Launch) (dC : Nat → ClassId) (dI : Nat → Nat → Nat) (cI cC cS : ClassId) (aF : Nat) (aK : Nat) (sz : Nat) (made : Int32) (mac : Int32) (ks : Nat → Int32) (x1 : Int32) (x2 : Int32) {post : Int32 → Int32 → (Nat → Int32) → Prop} (hq : wp_X0_foldAnew made mac ks x1 x2 post) : Met l yX0_foldAnew wsX0_foldAnew ({ frames := 2, cells := 0, slots := 0, locals := 41 } : Room) (gn_Pre (dC, dI) cI cC cS [.ref aF, .int x1, .int x2] sz [(aF, .inr (0, [.ref aK, .int made, .int mac])), (aK, .inl (cI, 6, .inl ks))]) (va_Qv (fun (u : Int32 × Int32 × (Nat → Int32)) => post u.1 u.2.1 u.2.2) (fun (u : Int32 × Int32 × (Nat → Int32)) t => va_P (dC, dI) vwCl [(aF, .inr (0, [.ref aK, .int u.1, .int u.2.1])), (aK, .inl (cI, 6, .inl u.2.2))] t.heap ∧ va_K (dC, dI) vwCl (gn_tys cI cC cS) t ∧ va_D (va_A [(aF, .inr (0, [.ref aK, .int made, .int mac])), (aK, .inl (cI, 6, .inl ks))] sz) [(aF, .inr (0, [.ref aK, .int u.1, .int u.2.1])), (aK, .inl (cI, 6, .inl u.2.2))]) (va_A [(aF, .inr (0, [.ref aK, .int made, .int mac])), (aK, .inl (cI, 6, .inl ks))] sz)) 0 0 (va_A [(aF, .inr (0, [.ref aK, .int made, .int mac])), (aK, .inl (cI, 6, .inl ks))] sz) := by
  unfold wp_X0_foldAnew at hq
  refine Met.ofW (cc := cX0_foldAnew) (maxL := 4) (ret := none) (by decide) rfl ?_
  intro p e s m args below meth c s₁ B hml hv
  obtain ⟨rfl, hsz, hP, hK, hN, hD0⟩ := hv
  have hx := B.exec
  have hb := B.bytes
  have hr := B.returns
  have hts := atoms_spec (ws := wsX0_foldAnew) B.pre
  have hown : s.vm.findClass RX0 = some m.cls := findClass_of_methodNamed B.named
  have hlocks := B.notSynchronized
  subst hsz
  have hD := hD0.self (sz := s.heap.size)
  generalize hAe : va_A [(aF, .inr (0, [.ref aK, .int made, .int mac])), (aK, .inl (cI, 6, .inl ks))] s.heap.size = A at hD ⊢
  have hA : ∀ q : Nat, s.heap.size ≤ q → A q := fun q h => by rw [← hAe]; exact Or.inr h
  have hS : va_S A s.heap s.heap [] := va_S.rf
  have hl := lv_entry ([.ref aF, .int x1, .int x2] : List Value) (n := 4) (Nat.le_of_ble_eq_true rfl)
  rw [lg_entry_eq]
  generalize (lg_sl ([.ref aF, .int x1, .int x2] : List Value) ++ List.replicate (4 - (lg_sl ([.ref aF, .int x1, .int x2] : List Value)).length) Slot.unset).toArray = ls at hl ⊢
  have hl : lv_has ls 4 [(0, .ref aF), (1, .int x1), (2, .int x2)] := hl
  refine gn_Q (hret := fun Q => ∀ (pc : Nat) (ls : Array Slot) (H : Heap) (locs : List Loc) (m_made : Int32) (m_mac : Int32) (m_ks : Nat → Int32), decode cX0_foldAnew pc = .ok (.return_, 1) → va_P (dC, dI) vwCl [(aF, .inr (0, [.ref aK, .int m_made, .int m_mac])), (aK, .inl (cI, 6, .inl m_ks))] H → va_D A [(aF, .inr (0, [.ref aK, .int m_made, .int m_mac])), (aK, .inl (cI, 6, .inl m_ks))] → va_S A s.heap H locs → post m_made m_mac m_ks → W p l e ({ frames := 2, cells := 0, slots := 0, locals := 41 } : Room) s m ([.ref aF, .int x1, .int x2] : List Value).toArray below meth c H locs 0 0 Q (F0 m pc ls [])) (fun Q hret => ?_) ?_
  rotate_left
  · intro pc ls H locs m_made m_mac m_ks hdg hP hD hS hpost
    exact W.vret hx hb hr (fun t ht hW => ⟨⟨(m_made, m_mac, m_ks), rfl, hpost, by rw [ht]; exact hP, va_K.moved hW.alike hK, hD⟩, hS.F ht⟩) hS.2.2 hdg
  refine lv_aload_n hx hb dX0_foldAnew_0 rfl (lv_at hl 0 rfl) ?_
  have hPc := hP.sub (ws' := [(aF, .inr (0, [.ref aK, .int made, .int mac]))]) [0] rfl
  have hDc := hD.sub (ws' := [(aF, .inr (0, [.ref aK, .int made, .int mac]))]) [0] (by decide) rfl
  have hFc := va_free (wc := [(aF, .inr (0, [.ref aK, .int made, .int mac]))]) hD hS hA [0] rfl
  refine va_callv (va_runV (As := []) (rest := []) ⟨hx, hb, hml, hown, hts⟩ (c_X0_takeAllBack l dC dI cI cC cS aF aK _ made mac hq) (cwV 0 hts gX0_foldAnew_X0_takeAllBack rfl rfl rfl (by decide +kernel) ⟨Nat.le_of_ble_eq_true rfl, Nat.le_of_ble_eq_true rfl⟩) (gn_preV hPc hK hN hDc (ci := 0) (q0 := 0) rfl rfl) rfl rfl hl.1 rfl (lv_room (Nat.le_of_ble_eq_true rfl)) dX0_foldAnew_1 ⟨Nat.zero_le _, Nat.zero_le _⟩) hS (fun q _ h => hFc q h) hFc (fun u t H1 locs ht hvm hq hB hz1 hk1 hS => ?_)
  obtain ⟨made__1, mac__2⟩ := u
  obtain ⟨hP1, hK1, hD1⟩ := hB
  rw [ht] at hP1
  try dsimp only at hq
  obtain ⟨hP, hD⟩ := va_join (wr := [(aK, .inl (cI, 6, .inl ks))]) (w1 := [(aF, .inr (0, [.ref aK, .int made__1, .int mac__2]))]) hP hD [0] [1] rfl rfl (by decide) (by decide) hk1 hFc hP1 hD1
  have hP := hP.sub (ws' := [(aF, .inr (0, [.ref aK, .int made__1, .int mac__2])), (aK, .inl (cI, 6, .inl ks))]) [1, 0] rfl
  have hD := hD.sub (ws' := [(aF, .inr (0, [.ref aK, .int made__1, .int mac__2])), (aK, .inl (cI, 6, .inl ks))]) [1, 0] (by decide) rfl
  generalize H1 = H at hP hS ⊢
  refine lv_iconst (v := 0) hx hb dX0_foldAnew_4 (by decide) ?_
  refine lv_istore_n (lv' := [(3, .int (0 : Int32)), (0, .ref aF), (1, .int x1), (2, .int x2)]) hx hb dX0_foldAnew_5 rfl hl (by decide) rfl (fun ls hl => ?_)
  have hq := hq (fun (v3_3 : Int32) (made__4 : Int32) (mac__5 : Int32) (ks__6 : Nat → Int32) => ∀ (H : Heap) (locs : List Loc) (ls : Array Slot), va_P (dC, dI) vwCl [(aF, .inr (0, [.ref aK, .int made__4, .int mac__5])), (aK, .inl (cI, 6, .inl ks__6))] H → va_D A [(aF, .inr (0, [.ref aK, .int made__4, .int mac__5])), (aK, .inl (cI, 6, .inl ks__6))] → va_S A s.heap H locs → lv_has ls 4 [(0, .ref aF), (1, .int x1), (2, .int x2), (3, .int v3_3)] → W p l e ({ frames := 2, cells := 0, slots := 0, locals := 41 } : Room) s m ([.ref aF, .int x1, .int x2] : List Value).toArray below meth c H locs 0 0 Q (F0 m 6 ls [])) (by
    intro v3_3 made__4 mac__5 ks__6 hq H locs ls hP hD hS hl
    refine lv_iload_n hx hb dX0_foldAnew_6 rfl (lv_at hl 3 rfl) ?_
    refine lv_iload_n hx hb dX0_foldAnew_7 rfl (lv_at hl 1 rfl) ?_
    refine lv_icmp_ge (tgt := 22) hx hb dX0_foldAnew_8 (by decide) (fun hc => ?_) (fun hc => ?_)
    · have hq := hq.1 hc
      refine lv_iconst (v := 0) hx hb dX0_foldAnew_22 (by decide) ?_
      refine lv_istore_n (lv' := [(3, .int (0 : Int32)), (0, .ref aF), (1, .int x1), (2, .int x2)]) hx hb dX0_foldAnew_23 rfl hl (by decide) rfl (fun ls hl => ?_)
      have hq := hq (fun (v3_7 : Int32) (made__8 : Int32) (mac__9 : Int32) (ks__10 : Nat → Int32) => ∀ (H : Heap) (locs : List Loc) (ls : Array Slot), va_P (dC, dI) vwCl [(aF, .inr (0, [.ref aK, .int made__8, .int mac__9])), (aK, .inl (cI, 6, .inl ks__10))] H → va_D A [(aF, .inr (0, [.ref aK, .int made__8, .int mac__9])), (aK, .inl (cI, 6, .inl ks__10))] → va_S A s.heap H locs → lv_has ls 4 [(0, .ref aF), (2, .int x2), (3, .int v3_7)] → W p l e ({ frames := 2, cells := 0, slots := 0, locals := 41 } : Room) s m ([.ref aF, .int x1, .int x2] : List Value).toArray below meth c H locs 0 0 Q (F0 m 24 ls [])) (by
        intro v3_7 made__8 mac__9 ks__10 hq H locs ls hP hD hS hl
        refine lv_iload_n hx hb dX0_foldAnew_24 rfl (lv_at hl 2 rfl) ?_
        refine lv_iload_n hx hb dX0_foldAnew_25 rfl (lv_at hl 1 rfl) ?_
        refine lv_icmp_ge (tgt := 40) hx hb dX0_foldAnew_26 (by decide) (fun hc => ?_) (fun hc => ?_)
        · have hq := hq.1 hc
          exact hret _ _ _ _ _ _ _ dX0_foldAnew_40 hP hD hS hq
        · have hq := hq.2 hc
          refine lv_aload_n hx hb dX0_foldAnew_29 rfl (lv_at hl 0 rfl) ?_
          refine lv_iconst (v := 3) hx hb dX0_foldAnew_30 (by decide) ?_
          have hPc := hP.sub (ws' := [(aF, .inr (0, [.ref aK, .int made__8, .int mac__9])), (aK, .inl (cI, 6, .inl ks__10))]) [0, 1] rfl
          have hDc := hD.sub (ws' := [(aF, .inr (0, [.ref aK, .int made__8, .int mac__9])), (aK, .inl (cI, 6, .inl ks__10))]) [0, 1] (by decide) rfl
          have hFc := va_free (wc := [(aF, .inr (0, [.ref aK, .int made__8, .int mac__9])), (aK, .inl (cI, 6, .inl ks__10))]) hD hS hA [0, 1] rfl
          refine va_callv (va_runV (As := [.int (3 : Int32)]) (rest := []) ⟨hx, hb, hml, hown, hts⟩ (c_X0_addFold l dC dI cI cC cS aF aK _ made__8 mac__9 ks__10 (3 : Int32) hq) (cwV 1 hts gX0_foldAnew_X0_addFold rfl rfl rfl (by decide +kernel) ⟨Nat.le_of_ble_eq_true rfl, Nat.le_of_ble_eq_true rfl⟩) (gn_preV hPc hK hN hDc (ci := 0) (q0 := 0) rfl rfl) rfl rfl hl.1 rfl (lv_room (Nat.le_of_ble_eq_true rfl)) dX0_foldAnew_31 ⟨Nat.zero_le _, Nat.zero_le _⟩) hS (fun q _ h => hFc q h) hFc (fun u t H1 locs ht hvm hq hB hz1 hk1 hS => ?_)
          obtain ⟨made__11, mac__12, ks__13⟩ := u
          obtain ⟨hP1, hK1, hD1⟩ := hB
          rw [ht] at hP1
          try dsimp only at hq
          obtain ⟨hP, hD⟩ := va_join (wr := []) (w1 := [(aF, .inr (0, [.ref aK, .int made__11, .int mac__12])), (aK, .inl (cI, 6, .inl ks__13))]) hP hD [0, 1] [] rfl rfl (by decide) (by decide) hk1 hFc hP1 hD1
          have hP := hP.sub (ws' := [(aF, .inr (0, [.ref aK, .int made__11, .int mac__12])), (aK, .inl (cI, 6, .inl ks__13))]) [0, 1] rfl
          have hD := hD.sub (ws' := [(aF, .inr (0, [.ref aK, .int made__11, .int mac__12])), (aK, .inl (cI, 6, .inl ks__13))]) [0, 1] (by decide) rfl
          generalize H1 = H at hP hS ⊢
          refine lv_iinc (v := (v3_7 + (1 : Int32))) (lv' := [(3, .int (v3_7 + (1 : Int32))), (0, .ref aF), (2, .int x2)]) hx hb dX0_foldAnew_34 hl (k := 2) rfl rfl (by decide) rfl (fun ls hl => ?_)
          refine lv_goto (tgt := 24) hx hb dX0_foldAnew_37 (by decide) ?_
          exact hq _ _ _ hP hD hS (lv_sub hl [1, 2, 0] rfl))
      exact hq _ _ _ hP hD hS (lv_sub hl [1, 3, 0] rfl)
    · have hq := hq.2 hc
      refine lv_aload_n hx hb dX0_foldAnew_11 rfl (lv_at hl 0 rfl) ?_
      refine lv_iconst (v := 1) hx hb dX0_foldAnew_12 (by decide) ?_
      have hPc := hP.sub (ws' := [(aF, .inr (0, [.ref aK, .int made__4, .int mac__5])), (aK, .inl (cI, 6, .inl ks__6))]) [0, 1] rfl
      have hDc := hD.sub (ws' := [(aF, .inr (0, [.ref aK, .int made__4, .int mac__5])), (aK, .inl (cI, 6, .inl ks__6))]) [0, 1] (by decide) rfl
      have hFc := va_free (wc := [(aF, .inr (0, [.ref aK, .int made__4, .int mac__5])), (aK, .inl (cI, 6, .inl ks__6))]) hD hS hA [0, 1] rfl
      refine va_callv (va_runV (As := [.int (1 : Int32)]) (rest := []) ⟨hx, hb, hml, hown, hts⟩ (c_X0_addFold l dC dI cI cC cS aF aK _ made__4 mac__5 ks__6 (1 : Int32) hq) (cwV 1 hts gX0_foldAnew_X0_addFold rfl rfl rfl (by decide +kernel) ⟨Nat.le_of_ble_eq_true rfl, Nat.le_of_ble_eq_true rfl⟩) (gn_preV hPc hK hN hDc (ci := 0) (q0 := 0) rfl rfl) rfl rfl hl.1 rfl (lv_room (Nat.le_of_ble_eq_true rfl)) dX0_foldAnew_13 ⟨Nat.zero_le _, Nat.zero_le _⟩) hS (fun q _ h => hFc q h) hFc (fun u t H1 locs ht hvm hq hB hz1 hk1 hS => ?_)
      obtain ⟨made__14, mac__15, ks__16⟩ := u
      obtain ⟨hP1, hK1, hD1⟩ := hB
      rw [ht] at hP1
      try dsimp only at hq
      obtain ⟨hP, hD⟩ := va_join (wr := []) (w1 := [(aF, .inr (0, [.ref aK, .int made__14, .int mac__15])), (aK, .inl (cI, 6, .inl ks__16))]) hP hD [0, 1] [] rfl rfl (by decide) (by decide) hk1 hFc hP1 hD1
      have hP := hP.sub (ws' := [(aF, .inr (0, [.ref aK, .int made__14, .int mac__15])), (aK, .inl (cI, 6, .inl ks__16))]) [0, 1] rfl
      have hD := hD.sub (ws' := [(aF, .inr (0, [.ref aK, .int made__14, .int mac__15])), (aK, .inl (cI, 6, .inl ks__16))]) [0, 1] (by decide) rfl
      generalize H1 = H at hP hS ⊢
      refine lv_iinc (v := (v3_3 + (1 : Int32))) (lv' := [(3, .int (v3_3 + (1 : Int32))), (0, .ref aF), (1, .int x1), (2, .int x2)]) hx hb dX0_foldAnew_16 hl (k := 3) rfl rfl (by decide) rfl (fun ls hl => ?_)
      refine lv_goto (tgt := 6) hx hb dX0_foldAnew_19 (by decide) ?_
      exact hq _ _ _ hP hD hS (lv_sub hl [1, 2, 3, 0] rfl))
  exact hq _ _ _ hP hD hS (lv_sub hl [1, 2, 3, 0] rfl)
set_option maxRecDepth 20000 in
theorem kwX0_becomeLike_9 : Cond.fieldLink RX0 9 "PunchedFolds$Folding" "kinds" "[I" ∈ wsX0_becomeLike := by decide +kernel
set_option maxRecDepth 20000 in
theorem iwX0_becomeLike_X0 : ∀ w ∈ wsX00, w ∈ wsX0_becomeLike := by decide +kernel
set_option maxRecDepth 20000 in
theorem kwX0_becomeLike_22 : Cond.methodLink RX0 22 arraycopyName ∈ wsX0_becomeLike := by decide +kernel
set_option maxRecDepth 20000 in
theorem kwX0_becomeLike_nat : Cond.native arraycopyName ∈ wsX0_becomeLike := by decide +kernel
set_option maxRecDepth 20000 in
theorem kwX0_becomeLike_stat : Cond.static arraycopyName ∈ wsX0_becomeLike := by decide +kernel
set_option maxRecDepth 20000 in
theorem kwX0_becomeLike_sys : Cond.initialized "java/lang/System" ∈ wsX0_becomeLike := by decide +kernel
set_option maxRecDepth 20000 in
theorem kwX0_becomeLike_15 : Cond.fieldLink RX0 15 "PunchedFolds$Folding" "made" "I" ∈ wsX0_becomeLike := by decide +kernel
set_option maxRecDepth 20000 in
theorem kwX0_becomeLike_19 : Cond.fieldLink RX0 19 "PunchedFolds$Folding" "madeAcross" "I" ∈ wsX0_becomeLike := by decide +kernel
set_option maxHeartbeats 4000000 in
set_option maxRecDepth 100000 in
theorem c_X0_becomeLike (l : Launch) (dC : Nat → ClassId) (dI : Nat → Nat → Nat) (cI cC cS : ClassId) (aF : Nat) (aK : Nat) (oaF : Nat) (oaK : Nat) (sz : Nat) (made : Int32) (mac : Int32) (ks : Nat → Int32) (omade : Int32) (omac : Int32) (oks : Nat → Int32) {post : Int32 → Int32 → (Nat → Int32) → Prop} (hq : wp_X0_becomeLike made mac ks omade omac oks post) : Met l yX0_becomeLike wsX0_becomeLike ({ frames := 1, cells := 0, slots := 0, locals := 24 } : Room) (gn_Pre (dC, dI) cI cC cS [.ref aF, .ref oaF] sz [(aF, .inr (0, [.ref aK, .int made, .int mac])), (aK, .inl (cI, 6, .inl ks)), (oaF, .inr (0, [.ref oaK, .int omade, .int omac])), (oaK, .inl (cI, 6, .inl oks))]) (va_Qv (fun (u : Int32 × Int32 × (Nat → Int32)) => post u.1 u.2.1 u.2.2) (fun (u : Int32 × Int32 × (Nat → Int32)) t => va_P (dC, dI) vwCl [(aF, .inr (0, [.ref aK, .int u.1, .int u.2.1])), (aK, .inl (cI, 6, .inl u.2.2)), (oaF, .inr (0, [.ref oaK, .int omade, .int omac])), (oaK, .inl (cI, 6, .inl oks))] t.heap ∧ va_K (dC, dI) vwCl (gn_tys cI cC cS) t ∧ va_D (va_A [(aF, .inr (0, [.ref aK, .int made, .int mac])), (aK, .inl (cI, 6, .inl ks)), (oaF, .inr (0, [.ref oaK, .int omade, .int omac])), (oaK, .inl (cI, 6, .inl oks))] sz) [(aF, .inr (0, [.ref aK, .int u.1, .int u.2.1])), (aK, .inl (cI, 6, .inl u.2.2)), (oaF, .inr (0, [.ref oaK, .int omade, .int omac])), (oaK, .inl (cI, 6, .inl oks))]) (va_A [(aF, .inr (0, [.ref aK, .int made, .int mac])), (aK, .inl (cI, 6, .inl ks)), (oaF, .inr (0, [.ref oaK, .int omade, .int omac])), (oaK, .inl (cI, 6, .inl oks))] sz)) 0 0 (va_A [(aF, .inr (0, [.ref aK, .int made, .int mac])), (aK, .inl (cI, 6, .inl ks)), (oaF, .inr (0, [.ref oaK, .int omade, .int omac])), (oaK, .inl (cI, 6, .inl oks))] sz) := by
  unfold wp_X0_becomeLike at hq
  refine Met.ofW (cc := cX0_becomeLike) (maxL := 2) (ret := none) (by decide) rfl ?_
  intro p e s m args below meth c s₁ B hml hv
  obtain ⟨rfl, hsz, hP, hK, hN, hD0⟩ := hv
  have hx := B.exec
  have hb := B.bytes
  have hr := B.returns
  have hts := atoms_spec (ws := wsX0_becomeLike) B.pre
  have hown : s.vm.findClass RX0 = some m.cls := findClass_of_methodNamed B.named
  have hlocks := B.notSynchronized
  subst hsz
  have hD := hD0.self (sz := s.heap.size)
  generalize hAe : va_A [(aF, .inr (0, [.ref aK, .int made, .int mac])), (aK, .inl (cI, 6, .inl ks)), (oaF, .inr (0, [.ref oaK, .int omade, .int omac])), (oaK, .inl (cI, 6, .inl oks))] s.heap.size = A at hD ⊢
  have hA : ∀ q : Nat, s.heap.size ≤ q → A q := fun q h => by rw [← hAe]; exact Or.inr h
  have hS : va_S A s.heap s.heap [] := va_S.rf
  have hl := lv_entry ([.ref aF, .ref oaF] : List Value) (n := 2) (Nat.le_of_ble_eq_true rfl)
  rw [lg_entry_eq]
  generalize (lg_sl ([.ref aF, .ref oaF] : List Value) ++ List.replicate (2 - (lg_sl ([.ref aF, .ref oaF] : List Value)).length) Slot.unset).toArray = ls at hl ⊢
  have hl : lv_has ls 2 [(0, .ref aF), (1, .ref oaF)] := hl
  refine gn_Q (hret := fun Q => ∀ (pc : Nat) (ls : Array Slot) (H : Heap) (locs : List Loc) (m_made : Int32) (m_mac : Int32) (m_ks : Nat → Int32), decode cX0_becomeLike pc = .ok (.return_, 1) → va_P (dC, dI) vwCl [(aF, .inr (0, [.ref aK, .int m_made, .int m_mac])), (aK, .inl (cI, 6, .inl m_ks)), (oaF, .inr (0, [.ref oaK, .int omade, .int omac])), (oaK, .inl (cI, 6, .inl oks))] H → va_D A [(aF, .inr (0, [.ref aK, .int m_made, .int m_mac])), (aK, .inl (cI, 6, .inl m_ks)), (oaF, .inr (0, [.ref oaK, .int omade, .int omac])), (oaK, .inl (cI, 6, .inl oks))] → va_S A s.heap H locs → post m_made m_mac m_ks → W p l e ({ frames := 1, cells := 0, slots := 0, locals := 24 } : Room) s m ([.ref aF, .ref oaF] : List Value).toArray below meth c H locs 0 0 Q (F0 m pc ls [])) (fun Q hret => ?_) ?_
  rotate_left
  · intro pc ls H locs m_made m_mac m_ks hdg hP hD hS hpost
    exact W.vret hx hb hr (fun t ht hW => ⟨⟨(m_made, m_mac, m_ks), rfl, hpost, by rw [ht]; exact hP, va_K.moved hW.alike hK, hD⟩, hS.F ht⟩) hS.2.2 hdg
  refine lv_aload_n hx hb dX0_becomeLike_0 rfl (lv_at hl 1 rfl) ?_
  refine va_get (D := (dC, dI)) (ci := 0) (v := .ref oaK) (C := RX0) (T := TX0) (N := 3) hx hb hts iwX0_becomeLike_X0 hown hK hP 2 rfl rfl 0 (by decide) (hts _ kwX0_becomeLike_9) (fun _ h9 => h9) rfl dX0_becomeLike_1 ?_
  refine lv_iconst (v := 0) hx hb dX0_becomeLike_4 (by decide) ?_
  refine lv_aload_n hx hb dX0_becomeLike_5 rfl (lv_at hl 0 rfl) ?_
  refine va_get (D := (dC, dI)) (ci := 0) (v := .ref aK) (C := RX0) (T := TX0) (N := 3) hx hb hts iwX0_becomeLike_X0 hown hK hP 0 rfl rfl 0 (by decide) (hts _ kwX0_becomeLike_9) (fun _ h9 => h9) rfl dX0_becomeLike_6 ?_
  refine lv_iconst (v := 0) hx hb dX0_becomeLike_9 (by decide) ?_
  refine lv_aload_n hx hb dX0_becomeLike_10 rfl (lv_at hl 0 rfl) ?_
  refine va_get (D := (dC, dI)) (ci := 0) (v := .ref aK) (C := RX0) (T := TX0) (N := 3) hx hb hts iwX0_becomeLike_X0 hown hK hP 0 rfl rfl 0 (by decide) (hts _ kwX0_becomeLike_9) (fun _ h9 => h9) rfl dX0_becomeLike_11 ?_
  refine va_alen hx hb hK hP 1 0 rfl rfl (v := 6) rfl dX0_becomeLike_14 ?_
  refine va_copyi hx hb (by rw [hml]; exact hl.1.symm) hown (hts _ kwX0_becomeLike_22) (hts _ kwX0_becomeLike_nat) (hts _ kwX0_becomeLike_stat) (hts _ kwX0_becomeLike_sys) hK hP hD hS 3 1 0 0 rfl rfl rfl rfl rfl (by decide) (by decide) (by decide) (by decide) (by decide) (fun _ _ => rfl) (Nat.le_of_ble_eq_true rfl) (Nat.le_of_ble_eq_true rfl) dX0_becomeLike_15 (fun H locs hP hD hS => ?_)
  have hP : va_P (dC, dI) vwCl [(aF, .inr (0, [.ref aK, .int made, .int mac])), (aK, .inl (cI, 6, .inl (va_cpy oks ks 0 0 6))), (oaF, .inr (0, [.ref oaK, .int omade, .int omac])), (oaK, .inl (cI, 6, .inl oks))] H := hP
  have hD : va_D A [(aF, .inr (0, [.ref aK, .int made, .int mac])), (aK, .inl (cI, 6, .inl (va_cpy oks ks 0 0 6))), (oaF, .inr (0, [.ref oaK, .int omade, .int omac])), (oaK, .inl (cI, 6, .inl oks))] := hD
  refine lv_aload_n hx hb dX0_becomeLike_18 rfl (lv_at hl 0 rfl) ?_
  refine lv_aload_n hx hb dX0_becomeLike_19 rfl (lv_at hl 1 rfl) ?_
  refine va_get (D := (dC, dI)) (ci := 0) (v := .int omade) (C := RX0) (T := TX0) (N := 3) hx hb hts iwX0_becomeLike_X0 hown hK hP 2 rfl rfl 1 (by decide) (hts _ kwX0_becomeLike_15) (fun _ h9 => h9) rfl dX0_becomeLike_20 ?_
  refine va_put (D := (dC, dI)) (ci := 0) (v := .int omade) (ty := .int) (C := RX0) (T := TX0) (N := 3) hx hb hts iwX0_becomeLike_X0 tyX0 tyX0_ok nmX0 hown hK hP hD hS 0 rfl rfl 1 (by decide) (hts _ kwX0_becomeLike_15) (fun _ h9 => h9) rfl (by decide +kernel) rfl rfl (Nat.le_of_ble_eq_true rfl) dX0_becomeLike_23 (fun H locs hP hD hS => ?_)
  have hP : va_P (dC, dI) vwCl [(aF, .inr (0, [.ref aK, .int omade, .int mac])), (aK, .inl (cI, 6, .inl (va_cpy oks ks 0 0 6))), (oaF, .inr (0, [.ref oaK, .int omade, .int omac])), (oaK, .inl (cI, 6, .inl oks))] H := hP
  have hD : va_D A [(aF, .inr (0, [.ref aK, .int omade, .int mac])), (aK, .inl (cI, 6, .inl (va_cpy oks ks 0 0 6))), (oaF, .inr (0, [.ref oaK, .int omade, .int omac])), (oaK, .inl (cI, 6, .inl oks))] := hD
  refine lv_aload_n hx hb dX0_becomeLike_26 rfl (lv_at hl 0 rfl) ?_
  refine lv_aload_n hx hb dX0_becomeLike_27 rfl (lv_at hl 1 rfl) ?_
  refine va_get (D := (dC, dI)) (ci := 0) (v := .int omac) (C := RX0) (T := TX0) (N := 3) hx hb hts iwX0_becomeLike_X0 hown hK hP 2 rfl rfl 2 (by decide) (hts _ kwX0_becomeLike_19) (fun _ h9 => h9) rfl dX0_becomeLike_28 ?_
  refine va_put (D := (dC, dI)) (ci := 0) (v := .int omac) (ty := .int) (C := RX0) (T := TX0) (N := 3) hx hb hts iwX0_becomeLike_X0 tyX0 tyX0_ok nmX0 hown hK hP hD hS 0 rfl rfl 2 (by decide) (hts _ kwX0_becomeLike_19) (fun _ h9 => h9) rfl (by decide +kernel) rfl rfl (Nat.le_of_ble_eq_true rfl) dX0_becomeLike_31 (fun H locs hP hD hS => ?_)
  have hP : va_P (dC, dI) vwCl [(aF, .inr (0, [.ref aK, .int omade, .int omac])), (aK, .inl (cI, 6, .inl (va_cpy oks ks 0 0 6))), (oaF, .inr (0, [.ref oaK, .int omade, .int omac])), (oaK, .inl (cI, 6, .inl oks))] H := hP
  have hD : va_D A [(aF, .inr (0, [.ref aK, .int omade, .int omac])), (aK, .inl (cI, 6, .inl (va_cpy oks ks 0 0 6))), (oaF, .inr (0, [.ref oaK, .int omade, .int omac])), (oaK, .inl (cI, 6, .inl oks))] := hD
  exact hret _ _ _ _ _ _ _ dX0_becomeLike_34 hP hD hS hq
set_option maxRecDepth 20000 in
theorem kwX0_upperSide_15 : Cond.fieldLink RX0 15 "PunchedFolds$Folding" "made" "I" ∈ wsX0_upperSide := by decide +kernel
set_option maxRecDepth 20000 in
theorem iwX0_upperSide_X0 : ∀ w ∈ wsX00, w ∈ wsX0_upperSide := by decide +kernel
set_option maxHeartbeats 4000000 in
set_option maxRecDepth 100000 in
theorem c_X0_upperSide (l : Launch) (dC : Nat → ClassId) (dI : Nat → Nat → Nat) (cI cC cS : ClassId) (aF : Nat) (aK : Nat) (sz : Nat) (made : Int32) (mac : Int32) (ks : Nat → Int32) (x1 : Int32) (x2 : Int32) (x3 : Int32) {post : Int32 → Prop} (hq : wp_X0_upperSide made mac ks x1 x2 x3 post) : Met l yX0_upperSide wsX0_upperSide ({ frames := 1, cells := 0, slots := 0, locals := 24 } : Room) (gn_Pre (dC, dI) cI cC cS [.ref aF, .int x1, .int x2, .int x3] sz [(aF, .inr (0, [.ref aK, .int made, .int mac])), (aK, .inl (cI, 6, .inl ks))]) (va_Qi (fun (r : Int32) (u : Unit) => post r) (fun (u : Unit) t => va_P (dC, dI) vwCl [(aF, .inr (0, [.ref aK, .int made, .int mac])), (aK, .inl (cI, 6, .inl ks))] t.heap ∧ va_K (dC, dI) vwCl (gn_tys cI cC cS) t ∧ va_D (va_A [(aF, .inr (0, [.ref aK, .int made, .int mac])), (aK, .inl (cI, 6, .inl ks))] sz) [(aF, .inr (0, [.ref aK, .int made, .int mac])), (aK, .inl (cI, 6, .inl ks))]) (va_A [(aF, .inr (0, [.ref aK, .int made, .int mac])), (aK, .inl (cI, 6, .inl ks))] sz)) 0 0 (va_A [(aF, .inr (0, [.ref aK, .int made, .int mac])), (aK, .inl (cI, 6, .inl ks))] sz) := by
  unfold wp_X0_upperSide at hq
  refine Met.ofW (cc := cX0_upperSide) (maxL := 15) (ret := (some .int)) (by decide) rfl ?_
  intro p e s m args below meth c s₁ B hml hv
  obtain ⟨rfl, hsz, hP, hK, hN, hD0⟩ := hv
  have hx := B.exec
  have hb := B.bytes
  have hr := B.returns
  have hts := atoms_spec (ws := wsX0_upperSide) B.pre
  have hown : s.vm.findClass RX0 = some m.cls := findClass_of_methodNamed B.named
  have hlocks := B.notSynchronized
  subst hsz
  have hD := hD0.self (sz := s.heap.size)
  generalize hAe : va_A [(aF, .inr (0, [.ref aK, .int made, .int mac])), (aK, .inl (cI, 6, .inl ks))] s.heap.size = A at hD ⊢
  have hA : ∀ q : Nat, s.heap.size ≤ q → A q := fun q h => by rw [← hAe]; exact Or.inr h
  have hS : va_S A s.heap s.heap [] := va_S.rf
  have hl := lv_entry ([.ref aF, .int x1, .int x2, .int x3] : List Value) (n := 15) (Nat.le_of_ble_eq_true rfl)
  rw [lg_entry_eq]
  generalize (lg_sl ([.ref aF, .int x1, .int x2, .int x3] : List Value) ++ List.replicate (15 - (lg_sl ([.ref aF, .int x1, .int x2, .int x3] : List Value)).length) Slot.unset).toArray = ls at hl ⊢
  have hl : lv_has ls 15 [(0, .ref aF), (1, .int x1), (2, .int x2), (3, .int x3)] := hl
  refine gn_Q (hret := fun Q => ∀ (pc : Nat) (ls : Array Slot) (H : Heap) (locs : List Loc) (r : Int32) , decode cX0_upperSide pc = .ok (.ireturn, 1) → va_P (dC, dI) vwCl [(aF, .inr (0, [.ref aK, .int made, .int mac])), (aK, .inl (cI, 6, .inl ks))] H → va_D A [(aF, .inr (0, [.ref aK, .int made, .int mac])), (aK, .inl (cI, 6, .inl ks))] → va_S A s.heap H locs → post r → W p l e ({ frames := 1, cells := 0, slots := 0, locals := 24 } : Room) s m ([.ref aF, .int x1, .int x2, .int x3] : List Value).toArray below meth c H locs 0 0 Q (F0 m pc ls [.int r])) (fun Q hret => ?_) ?_
  rotate_left
  · intro pc ls H locs r hdg hP hD hS hpost
    exact W.iret (v := r) hx hb hr (fun t ht hW => ⟨⟨r, (), rfl, hpost, by rw [ht]; exact hP, va_K.moved hW.alike hK, hD⟩, hS.F ht⟩) hS.2.2 hdg
  refine lv_iload_n hx hb dX0_upperSide_0 rfl (lv_at hl 1 rfl) ?_
  refine lv_istore (lv' := [(4, .int x1), (0, .ref aF), (1, .int x1), (2, .int x2), (3, .int x3)]) hx hb dX0_upperSide_1 hl (by decide) rfl (fun ls hl => ?_)
  refine lv_iload_n hx hb dX0_upperSide_3 rfl (lv_at hl 3 rfl) ?_
  refine lv_istore (lv' := [(5, .int x2), (4, .int x1), (0, .ref aF), (1, .int x1), (2, .int x2), (3, .int x3)]) hx hb dX0_upperSide_4 hl (by decide) rfl (fun ls hl => ?_)
  refine lv_iload_n hx hb dX0_upperSide_6 rfl (lv_at hl 5 rfl) ?_
  refine lv_istore (lv' := [(6, .int x3), (5, .int x2), (4, .int x1), (0, .ref aF), (1, .int x1), (2, .int x2), (3, .int x3)]) hx hb dX0_upperSide_7 hl (by decide) rfl (fun ls hl => ?_)
  refine lv_iconst (v := 0) hx hb dX0_upperSide_9 (by decide) ?_
  refine lv_istore (lv' := [(7, .int (0 : Int32)), (6, .int x3), (5, .int x2), (4, .int x1), (0, .ref aF), (1, .int x1), (2, .int x2), (3, .int x3)]) hx hb dX0_upperSide_10 hl (by decide) rfl (fun ls hl => ?_)
  refine lv_aload_n hx hb dX0_upperSide_12 rfl (lv_at hl 4 rfl) ?_
  have hPc := hP.sub (ws' := [(aF, .inr (0, [.ref aK, .int made, .int mac]))]) [0] rfl
  have hDc := hD.sub (ws' := [(aF, .inr (0, [.ref aK, .int made, .int mac]))]) [0] (by decide) rfl
  have hFc := va_free (wc := [(aF, .inr (0, [.ref aK, .int made, .int mac]))]) hD hS hA [0] rfl
  refine va_calli (va_runV (As := []) (rest := []) ⟨hx, hb, hml, hown, hts⟩ (c_X0_columns l dC dI cI cC cS aF aK _ made mac hq) (cwV 0 hts gX0_upperSide_X0_columns rfl rfl rfl (by decide +kernel) ⟨Nat.le_of_ble_eq_true rfl, Nat.le_of_ble_eq_true rfl⟩) (gn_preV hPc hK hN hDc (ci := 0) (q0 := 0) rfl rfl) rfl rfl hl.1 rfl (lv_room (Nat.le_of_ble_eq_true rfl)) dX0_upperSide_13 ⟨Nat.zero_le _, Nat.zero_le _⟩) hS (fun q _ h => hFc q h) hFc (fun r_1 u t H1 locs ht hvm hq hB hz1 hk1 hS => ?_)
  obtain ⟨hP1, hK1, hD1⟩ := hB
  rw [ht] at hP1
  try dsimp only at hq
  obtain ⟨hP, hD⟩ := va_join (wr := [(aK, .inl (cI, 6, .inl ks))]) (w1 := [(aF, .inr (0, [.ref aK, .int made, .int mac]))]) hP hD [0] [1] rfl rfl (by decide) (by decide) hk1 hFc hP1 hD1
  have hP := hP.sub (ws' := [(aF, .inr (0, [.ref aK, .int made, .int mac])), (aK, .inl (cI, 6, .inl ks))]) [1, 0] rfl
  have hD := hD.sub (ws' := [(aF, .inr (0, [.ref aK, .int made, .int mac])), (aK, .inl (cI, 6, .inl ks))]) [1, 0] (by decide) rfl
  generalize H1 = H at hP hS ⊢
  refine lv_istore (lv' := [(8, .int r_1), (7, .int (0 : Int32)), (6, .int x3), (5, .int x2), (4, .int x1), (0, .ref aF), (1, .int x1), (2, .int x2), (3, .int x3)]) hx hb dX0_upperSide_16 hl (by decide) rfl (fun ls hl => ?_)
  refine lv_aload_n hx hb dX0_upperSide_18 rfl (lv_at hl 5 rfl) ?_
  have hPc := hP.sub (ws' := [(aF, .inr (0, [.ref aK, .int made, .int mac]))]) [0] rfl
  have hDc := hD.sub (ws' := [(aF, .inr (0, [.ref aK, .int made, .int mac]))]) [0] (by decide) rfl
  have hFc := va_free (wc := [(aF, .inr (0, [.ref aK, .int made, .int mac]))]) hD hS hA [0] rfl
  refine va_calli (va_runV (As := []) (rest := []) ⟨hx, hb, hml, hown, hts⟩ (c_X0_rows l dC dI cI cC cS aF aK _ made mac hq) (cwV 0 hts gX0_upperSide_X0_rows rfl rfl rfl (by decide +kernel) ⟨Nat.le_of_ble_eq_true rfl, Nat.le_of_ble_eq_true rfl⟩) (gn_preV hPc hK hN hDc (ci := 0) (q0 := 0) rfl rfl) rfl rfl hl.1 rfl (lv_room (Nat.le_of_ble_eq_true rfl)) dX0_upperSide_19 ⟨Nat.zero_le _, Nat.zero_le _⟩) hS (fun q _ h => hFc q h) hFc (fun r_2 u t H1 locs ht hvm hq hB hz1 hk1 hS => ?_)
  obtain ⟨hP1, hK1, hD1⟩ := hB
  rw [ht] at hP1
  try dsimp only at hq
  obtain ⟨hP, hD⟩ := va_join (wr := [(aK, .inl (cI, 6, .inl ks))]) (w1 := [(aF, .inr (0, [.ref aK, .int made, .int mac]))]) hP hD [0] [1] rfl rfl (by decide) (by decide) hk1 hFc hP1 hD1
  have hP := hP.sub (ws' := [(aF, .inr (0, [.ref aK, .int made, .int mac])), (aK, .inl (cI, 6, .inl ks))]) [1, 0] rfl
  have hD := hD.sub (ws' := [(aF, .inr (0, [.ref aK, .int made, .int mac])), (aK, .inl (cI, 6, .inl ks))]) [1, 0] (by decide) rfl
  generalize H1 = H at hP hS ⊢
  refine lv_istore (lv' := [(9, .int r_2), (8, .int r_1), (7, .int (0 : Int32)), (6, .int x3), (5, .int x2), (4, .int x1), (0, .ref aF), (1, .int x1), (2, .int x2), (3, .int x3)]) hx hb dX0_upperSide_22 hl (by decide) rfl (fun ls hl => ?_)
  refine lv_aload_n hx hb dX0_upperSide_24 rfl (lv_at hl 6 rfl) ?_
  have hPc := hP.sub (ws' := [(aF, .inr (0, [.ref aK, .int made, .int mac]))]) [0] rfl
  have hDc := hD.sub (ws' := [(aF, .inr (0, [.ref aK, .int made, .int mac]))]) [0] (by decide) rfl
  have hFc := va_free (wc := [(aF, .inr (0, [.ref aK, .int made, .int mac]))]) hD hS hA [0] rfl
  refine va_calli (va_runV (As := []) (rest := []) ⟨hx, hb, hml, hown, hts⟩ (c_X0_layers l dC dI cI cC cS aF aK _ made mac hq) (cwV 0 hts gX0_upperSide_X0_layers rfl rfl rfl (by decide +kernel) ⟨Nat.le_of_ble_eq_true rfl, Nat.le_of_ble_eq_true rfl⟩) (gn_preV hPc hK hN hDc (ci := 0) (q0 := 0) rfl rfl) rfl rfl hl.1 rfl (lv_room (Nat.le_of_ble_eq_true rfl)) dX0_upperSide_25 ⟨Nat.zero_le _, Nat.zero_le _⟩) hS (fun q _ h => hFc q h) hFc (fun r_3 u t H1 locs ht hvm hq hB hz1 hk1 hS => ?_)
  obtain ⟨hP1, hK1, hD1⟩ := hB
  rw [ht] at hP1
  try dsimp only at hq
  obtain ⟨hP, hD⟩ := va_join (wr := [(aK, .inl (cI, 6, .inl ks))]) (w1 := [(aF, .inr (0, [.ref aK, .int made, .int mac]))]) hP hD [0] [1] rfl rfl (by decide) (by decide) hk1 hFc hP1 hD1
  have hP := hP.sub (ws' := [(aF, .inr (0, [.ref aK, .int made, .int mac])), (aK, .inl (cI, 6, .inl ks))]) [1, 0] rfl
  have hD := hD.sub (ws' := [(aF, .inr (0, [.ref aK, .int made, .int mac])), (aK, .inl (cI, 6, .inl ks))]) [1, 0] (by decide) rfl
  generalize H1 = H at hP hS ⊢
  refine lv_istore (lv' := [(10, .int r_3), (9, .int r_2), (8, .int r_1), (7, .int (0 : Int32)), (6, .int x3), (5, .int x2), (4, .int x1), (0, .ref aF), (1, .int x1), (2, .int x2), (3, .int x3)]) hx hb dX0_upperSide_28 hl (by decide) rfl (fun ls hl => ?_)
  refine lv_aload_n hx hb dX0_upperSide_30 rfl (lv_at hl 7 rfl) ?_
  refine va_get (D := (dC, dI)) (ci := 0) (v := .int made) (C := RX0) (T := TX0) (N := 3) hx hb hts iwX0_upperSide_X0 hown hK hP 0 rfl rfl 1 (by decide) (hts _ kwX0_upperSide_15) (fun _ h9 => h9) rfl dX0_upperSide_31 ?_
  refine lv_iconst (v := 1) hx hb dX0_upperSide_34 (by decide) ?_
  refine lv_isub hx hb dX0_upperSide_35 ?_
  refine lv_topi (fun w11_4 ew11_4 => ?_)
  have hq := hq w11_4 ew11_4
  refine lv_istore (lv' := [(11, .int w11_4), (10, .int r_3), (9, .int r_2), (8, .int r_1), (7, .int (0 : Int32)), (6, .int x3), (5, .int x2), (4, .int x1), (0, .ref aF), (1, .int x1), (2, .int x2), (3, .int x3)]) hx hb dX0_upperSide_36 hl (by decide) rfl (fun ls hl => ?_)
  have hq := hq (fun (v4_5 : Int32) (v5_6 : Int32) (v6_7 : Int32) (v7_8 : Int32) (v8_9 : Int32) (v9_10 : Int32) (v10_11 : Int32) (v11_12 : Int32) => ∀ (H : Heap) (locs : List Loc) (ls : Array Slot), va_P (dC, dI) vwCl [(aF, .inr (0, [.ref aK, .int made, .int mac])), (aK, .inl (cI, 6, .inl ks))] H → va_D A [(aF, .inr (0, [.ref aK, .int made, .int mac])), (aK, .inl (cI, 6, .inl ks))] → va_S A s.heap H locs → lv_has ls 15 [(0, .ref aF), (4, .int v4_5), (5, .int v5_6), (6, .int v6_7), (7, .int v7_8), (8, .int v8_9), (9, .int v9_10), (10, .int v10_11), (11, .int v11_12)] → W p l e ({ frames := 1, cells := 0, slots := 0, locals := 24 } : Room) s m ([.ref aF, .int x1, .int x2, .int x3] : List Value).toArray below meth c H locs 0 0 Q (F0 m 38 ls [])) (by
    intro v4_5 v5_6 v6_7 v7_8 v8_9 v9_10 v10_11 v11_12 hq H locs ls hP hD hS hl
    refine lv_iload hx hb dX0_upperSide_38 (lv_at hl 8 rfl) ?_
    refine lv_if_lt (tgt := 171) hx hb dX0_upperSide_40 (by decide) (fun hc => ?_) (fun hc => ?_)
    · have hq := hq.1 hc
      refine lv_iconst (v := 2) hx hb dX0_upperSide_171 (by decide) ?_
      refine lv_bipush (v := 8) hx hb dX0_upperSide_172 (by decide) ?_
      refine lv_iload hx hb dX0_upperSide_174 (lv_at hl 2 rfl) ?_
      refine lv_imul hx hb dX0_upperSide_176 ?_
      refine lv_iload hx hb dX0_upperSide_177 (lv_at hl 1 rfl) ?_
      refine lv_iadd hx hb dX0_upperSide_179 ?_
      refine lv_imul hx hb dX0_upperSide_180 ?_
      refine lv_iload hx hb dX0_upperSide_181 (lv_at hl 4 rfl) ?_
      refine lv_iadd hx hb dX0_upperSide_183 ?_
      exact hret _ _ _ _ _ dX0_upperSide_184 hP hD hS hq
    · have hq := hq.2 hc
      refine lv_aload_n hx hb dX0_upperSide_43 rfl (lv_at hl 0 rfl) ?_
      refine lv_iload hx hb dX0_upperSide_44 (lv_at hl 8 rfl) ?_
      have hPc := hP.sub (ws' := [(aF, .inr (0, [.ref aK, .int made, .int mac])), (aK, .inl (cI, 6, .inl ks))]) [0, 1] rfl
      have hDc := hD.sub (ws' := [(aF, .inr (0, [.ref aK, .int made, .int mac])), (aK, .inl (cI, 6, .inl ks))]) [0, 1] (by decide) rfl
      have hFc := va_free (wc := [(aF, .inr (0, [.ref aK, .int made, .int mac])), (aK, .inl (cI, 6, .inl ks))]) hD hS hA [0, 1] rfl
      refine va_calli (va_runV (As := [.int v11_12]) (rest := []) ⟨hx, hb, hml, hown, hts⟩ (c_X0_kindOf l dC dI cI cC cS aF aK _ made mac ks v11_12 hq) (cwV 1 hts gX0_upperSide_X0_kindOf rfl rfl rfl (by decide +kernel) ⟨Nat.le_of_ble_eq_true rfl, Nat.le_of_ble_eq_true rfl⟩) (gn_preV hPc hK hN hDc (ci := 0) (q0 := 0) rfl rfl) rfl rfl hl.1 rfl (lv_room (Nat.le_of_ble_eq_true rfl)) dX0_upperSide_46 ⟨Nat.zero_le _, Nat.zero_le _⟩) hS (fun q _ h => hFc q h) hFc (fun r_13 u t H1 locs ht hvm hq hB hz1 hk1 hS => ?_)
      obtain ⟨hP1, hK1, hD1⟩ := hB
      rw [ht] at hP1
      try dsimp only at hq
      obtain ⟨hP, hD⟩ := va_join (wr := []) (w1 := [(aF, .inr (0, [.ref aK, .int made, .int mac])), (aK, .inl (cI, 6, .inl ks))]) hP hD [0, 1] [] rfl rfl (by decide) (by decide) hk1 hFc hP1 hD1
      have hP := hP.sub (ws' := [(aF, .inr (0, [.ref aK, .int made, .int mac])), (aK, .inl (cI, 6, .inl ks))]) [0, 1] rfl
      have hD := hD.sub (ws' := [(aF, .inr (0, [.ref aK, .int made, .int mac])), (aK, .inl (cI, 6, .inl ks))]) [0, 1] (by decide) rfl
      generalize H1 = H at hP hS ⊢
      refine lv_istore (lv' := [(12, .int r_13), (0, .ref aF), (4, .int v4_5), (5, .int v5_6), (6, .int v6_7), (7, .int v7_8), (8, .int v8_9), (9, .int v9_10), (10, .int v10_11), (11, .int v11_12)]) hx hb dX0_upperSide_49 hl (by decide) rfl (fun ls hl => ?_)
      refine lv_iload hx hb dX0_upperSide_51 (lv_at hl 0 rfl) ?_
      have hPc := hP.sub (ws' := []) [] rfl
      have hDc := hD.sub (ws' := []) [] (by decide) rfl
      have hFc := va_free (wc := []) hD hS hA [] rfl
      refine va_calli (va_runS (As := [.int r_13]) (rest := []) ⟨hx, hb, hml, hown, hts⟩ (c_X0_movesFirstHalf l dC dI cI cC cS _ r_13 hq) (va_cwS 1 hts gX0_upperSide_X0_movesFirstHalf rfl rfl rfl (by decide +kernel) ⟨Nat.le_of_ble_eq_true rfl, Nat.le_of_ble_eq_true rfl⟩) (gn_preS hPc hK hN hDc) rfl rfl hl.1 rfl (lv_room (Nat.le_of_ble_eq_true rfl)) dX0_upperSide_53 ⟨Nat.zero_le _, Nat.zero_le _⟩) hS (fun q _ h => hFc q h) hFc (fun r_14 u t H1 locs ht hvm hq hB hz1 hk1 hS => ?_)
      obtain ⟨hP1, hK1, hD1⟩ := hB
      rw [ht] at hP1
      try dsimp only at hq
      obtain ⟨hP, hD⟩ := va_join (wr := [(aF, .inr (0, [.ref aK, .int made, .int mac])), (aK, .inl (cI, 6, .inl ks))]) (w1 := []) hP hD [] [0, 1] rfl rfl (by decide) (by decide) hk1 hFc hP1 hD1
      have hP := hP.sub (ws' := [(aF, .inr (0, [.ref aK, .int made, .int mac])), (aK, .inl (cI, 6, .inl ks))]) [0, 1] rfl
      have hD := hD.sub (ws' := [(aF, .inr (0, [.ref aK, .int made, .int mac])), (aK, .inl (cI, 6, .inl ks))]) [0, 1] (by decide) rfl
      generalize H1 = H at hP hS ⊢
      refine lv_istore (lv' := [(13, .int r_14), (12, .int r_13), (0, .ref aF), (4, .int v4_5), (5, .int v5_6), (6, .int v6_7), (7, .int v7_8), (8, .int v8_9), (9, .int v9_10), (10, .int v10_11), (11, .int v11_12)]) hx hb dX0_upperSide_56 hl (by decide) rfl (fun ls hl => ?_)
      refine lv_iload hx hb dX0_upperSide_58 (lv_at hl 9 rfl) ?_
      refine lv_iconst (v := 2) hx hb dX0_upperSide_60 (by decide) ?_
      refine lv_idiv hx hb dX0_upperSide_61 (by decide) ?_
      refine lv_topi (fun w10_15 ew10_15 => ?_)
      have hq := hq w10_15 ew10_15
      refine lv_istore (lv' := [(10, .int w10_15), (13, .int r_14), (12, .int r_13), (0, .ref aF), (4, .int v4_5), (5, .int v5_6), (6, .int v6_7), (7, .int v7_8), (8, .int v8_9), (9, .int v9_10), (11, .int v11_12)]) hx hb dX0_upperSide_62 hl (by decide) rfl (fun ls hl => ?_)
      refine lv_iload hx hb dX0_upperSide_64 (lv_at hl 6 rfl) ?_
      refine lv_iload hx hb dX0_upperSide_66 (lv_at hl 0 rfl) ?_
      have hq := hq (fun (t_16 : Int32) => ∀ (H : Heap) (locs : List Loc) (ls : Array Slot), va_P (dC, dI) vwCl [(aF, .inr (0, [.ref aK, .int made, .int mac])), (aK, .inl (cI, 6, .inl ks))] H → va_D A [(aF, .inr (0, [.ref aK, .int made, .int mac])), (aK, .inl (cI, 6, .inl ks))] → va_S A s.heap H locs → lv_has ls 15 [(0, .ref aF), (4, .int v4_5), (5, .int v5_6), (6, .int v6_7), (7, .int v7_8), (8, .int v8_9), (9, .int v9_10), (10, .int w10_15), (11, .int v11_12), (12, .int r_13), (13, .int r_14)] → W p l e ({ frames := 1, cells := 0, slots := 0, locals := 24 } : Room) s m ([.ref aF, .int x1, .int x2, .int x3] : List Value).toArray below meth c H locs 0 0 Q (F0 m 76 ls [.int t_16])) (by
        intro t_16 hq H locs ls hP hD hS hl
        refine lv_istore (lv' := [(14, .int t_16), (0, .ref aF), (4, .int v4_5), (5, .int v5_6), (6, .int v6_7), (7, .int v7_8), (8, .int v8_9), (9, .int v9_10), (10, .int w10_15), (11, .int v11_12), (12, .int r_13), (13, .int r_14)]) hx hb dX0_upperSide_76 hl (by decide) rfl (fun ls hl => ?_)
        refine lv_iload hx hb dX0_upperSide_78 (lv_at hl 10 rfl) ?_
        have hPc := hP.sub (ws' := []) [] rfl
        have hDc := hD.sub (ws' := []) [] (by decide) rfl
        have hFc := va_free (wc := []) hD hS hA [] rfl
        refine va_calli (va_runS (As := [.int r_13]) (rest := []) ⟨hx, hb, hml, hown, hts⟩ (c_X0_isAcross l dC dI cI cC cS _ r_13 hq) (va_cwS 1 hts gX0_upperSide_X0_isAcross rfl rfl rfl (by decide +kernel) ⟨Nat.le_of_ble_eq_true rfl, Nat.le_of_ble_eq_true rfl⟩) (gn_preS hPc hK hN hDc) rfl rfl hl.1 rfl (lv_room (Nat.le_of_ble_eq_true rfl)) dX0_upperSide_80 ⟨Nat.zero_le _, Nat.zero_le _⟩) hS (fun q _ h => hFc q h) hFc (fun r_17 u t H1 locs ht hvm hq hB hz1 hk1 hS => ?_)
        obtain ⟨hP1, hK1, hD1⟩ := hB
        rw [ht] at hP1
        try dsimp only at hq
        obtain ⟨hP, hD⟩ := va_join (wr := [(aF, .inr (0, [.ref aK, .int made, .int mac])), (aK, .inl (cI, 6, .inl ks))]) (w1 := []) hP hD [] [0, 1] rfl rfl (by decide) (by decide) hk1 hFc hP1 hD1
        have hP := hP.sub (ws' := [(aF, .inr (0, [.ref aK, .int made, .int mac])), (aK, .inl (cI, 6, .inl ks))]) [0, 1] rfl
        have hD := hD.sub (ws' := [(aF, .inr (0, [.ref aK, .int made, .int mac])), (aK, .inl (cI, 6, .inl ks))]) [0, 1] (by decide) rfl
        generalize H1 = H at hP hS ⊢
        have hq := hq (fun (v4_18 : Int32) (v5_19 : Int32) (v8_20 : Int32) (v9_21 : Int32) => ∀ (H : Heap) (locs : List Loc) (ls : Array Slot), va_P (dC, dI) vwCl [(aF, .inr (0, [.ref aK, .int made, .int mac])), (aK, .inl (cI, 6, .inl ks))] H → va_D A [(aF, .inr (0, [.ref aK, .int made, .int mac])), (aK, .inl (cI, 6, .inl ks))] → va_S A s.heap H locs → lv_has ls 15 [(0, .ref aF), (4, .int v4_18), (5, .int v5_19), (6, .int v6_7), (7, .int v7_8), (8, .int v8_20), (9, .int v9_21), (10, .int w10_15), (11, .int v11_12), (14, .int t_16)] → W p l e ({ frames := 1, cells := 0, slots := 0, locals := 24 } : Room) s m ([.ref aF, .int x1, .int x2, .int x3] : List Value).toArray below meth c H locs 0 0 Q (F0 m 127 ls [])) (by
          intro v4_18 v5_19 v8_20 v9_21 hq H locs ls hP hD hS hl
          refine lv_iload hx hb dX0_upperSide_127 (lv_at hl 9 rfl) ?_
          have hq := hq (fun (t_22 : Int32) => ∀ (H : Heap) (locs : List Loc) (ls : Array Slot), va_P (dC, dI) vwCl [(aF, .inr (0, [.ref aK, .int made, .int mac])), (aK, .inl (cI, 6, .inl ks))] H → va_D A [(aF, .inr (0, [.ref aK, .int made, .int mac])), (aK, .inl (cI, 6, .inl ks))] → va_S A s.heap H locs → lv_has ls 15 [(0, .ref aF), (4, .int v4_18), (5, .int v5_19), (7, .int v7_8), (8, .int v8_20), (9, .int v9_21), (10, .int w10_15), (11, .int v11_12), (14, .int t_16)] → W p l e ({ frames := 1, cells := 0, slots := 0, locals := 24 } : Room) s m ([.ref aF, .int x1, .int x2, .int x3] : List Value).toArray below meth c H locs 0 0 Q (F0 m 147 ls [.int t_22])) (by
            intro t_22 hq H locs ls hP hD hS hl
            refine lv_istore (lv' := [(6, .int t_22), (0, .ref aF), (4, .int v4_18), (5, .int v5_19), (7, .int v7_8), (8, .int v8_20), (9, .int v9_21), (10, .int w10_15), (11, .int v11_12), (14, .int t_16)]) hx hb dX0_upperSide_147 hl (by decide) rfl (fun ls hl => ?_)
            refine lv_iload hx hb dX0_upperSide_149 (lv_at hl 9 rfl) ?_
            have hq := hq (fun (t_23 : Int32) => ∀ (H : Heap) (locs : List Loc) (ls : Array Slot), va_P (dC, dI) vwCl [(aF, .inr (0, [.ref aK, .int made, .int mac])), (aK, .inl (cI, 6, .inl ks))] H → va_D A [(aF, .inr (0, [.ref aK, .int made, .int mac])), (aK, .inl (cI, 6, .inl ks))] → va_S A s.heap H locs → lv_has ls 15 [(0, .ref aF), (4, .int v4_18), (5, .int v5_19), (6, .int t_22), (8, .int v8_20), (9, .int v9_21), (10, .int w10_15), (11, .int v11_12)] → W p l e ({ frames := 1, cells := 0, slots := 0, locals := 24 } : Room) s m ([.ref aF, .int x1, .int x2, .int x3] : List Value).toArray below meth c H locs 0 0 Q (F0 m 163 ls [.int t_23])) (by
              intro t_23 hq H locs ls hP hD hS hl
              refine lv_istore (lv' := [(7, .int t_23), (0, .ref aF), (4, .int v4_18), (5, .int v5_19), (6, .int t_22), (8, .int v8_20), (9, .int v9_21), (10, .int w10_15), (11, .int v11_12)]) hx hb dX0_upperSide_163 hl (by decide) rfl (fun ls hl => ?_)
              refine lv_iinc (v := (v11_12 + (-1 : Int32))) (lv' := [(11, .int (v11_12 + (-1 : Int32))), (7, .int t_23), (0, .ref aF), (4, .int v4_18), (5, .int v5_19), (6, .int t_22), (8, .int v8_20), (9, .int v9_21), (10, .int w10_15)]) hx hb dX0_upperSide_165 hl (k := 8) rfl rfl (by decide) rfl (fun ls hl => ?_)
              refine lv_goto (tgt := 38) hx hb dX0_upperSide_168 (by decide) ?_
              exact hq _ _ _ hP hD hS (lv_sub hl [2, 3, 4, 5, 1, 6, 7, 8, 0] rfl))
            refine lv_if_eq (tgt := 161) hx hb dX0_upperSide_151 (by decide) (fun hc => ?_) (fun hc => ?_)
            · have hq := hq.1 hc
              refine lv_iload hx hb dX0_upperSide_161 (lv_at hl 4 rfl) ?_
              exact hq _ _ _ hP hD hS (lv_sub hl [1, 2, 3, 0, 5, 6, 7, 8] rfl)
            · have hq := hq.2 hc
              refine lv_iconst (v := 1) hx hb dX0_upperSide_154 (by decide) ?_
              refine lv_iload hx hb dX0_upperSide_155 (lv_at hl 4 rfl) ?_
              refine lv_isub hx hb dX0_upperSide_157 ?_
              refine lv_goto (tgt := 163) hx hb dX0_upperSide_158 (by decide) ?_
              exact hq _ _ _ hP hD hS (lv_sub hl [1, 2, 3, 0, 5, 6, 7, 8] rfl))
          refine lv_if_eq (tgt := 142) hx hb dX0_upperSide_129 (by decide) (fun hc => ?_) (fun hc => ?_)
          · have hq := hq.1 hc
            refine lv_iload hx hb dX0_upperSide_142 (lv_at hl 3 rfl) ?_
            refine lv_iload hx hb dX0_upperSide_144 (lv_at hl 7 rfl) ?_
            refine lv_isub hx hb dX0_upperSide_146 ?_
            exact hq _ _ _ hP hD hS (lv_sub hl [0, 1, 2, 4, 5, 6, 7, 8, 9] rfl)
          · have hq := hq.2 hc
            refine lv_iload hx hb dX0_upperSide_132 (lv_at hl 7 rfl) ?_
            refine lv_iconst (v := 1) hx hb dX0_upperSide_134 (by decide) ?_
            refine lv_isub hx hb dX0_upperSide_135 ?_
            refine lv_iload hx hb dX0_upperSide_136 (lv_at hl 3 rfl) ?_
            refine lv_isub hx hb dX0_upperSide_138 ?_
            refine lv_goto (tgt := 147) hx hb dX0_upperSide_139 (by decide) ?_
            exact hq _ _ _ hP hD hS (lv_sub hl [0, 1, 2, 4, 5, 6, 7, 8, 9] rfl))
        refine lv_if_eq (tgt := 108) hx hb dX0_upperSide_83 (by decide) (fun hc => ?_) (fun hc => ?_)
        · have hq := hq.1 hc
          refine lv_iload hx hb dX0_upperSide_108 (lv_at hl 3 rfl) ?_
          refine lv_iload hx hb dX0_upperSide_110 (lv_at hl 7 rfl) ?_
          refine lv_iload hx hb dX0_upperSide_112 (lv_at hl 11 rfl) ?_
          refine lv_iload hx hb dX0_upperSide_114 (lv_at hl 0 rfl) ?_
          have hPc := hP.sub (ws' := []) [] rfl
          have hDc := hD.sub (ws' := []) [] (by decide) rfl
          have hFc := va_free (wc := []) hD hS hA [] rfl
          refine va_calli (va_runS (As := [.int v5_6, .int v9_10, .int r_14, .int t_16]) (rest := []) ⟨hx, hb, hml, hown, hts⟩ (c_X0_placeAhead l dC dI cI cC cS _ v5_6 v9_10 r_14 t_16 hq) (va_cwS 4 hts gX0_upperSide_X0_placeAhead rfl rfl rfl (by decide +kernel) ⟨Nat.le_of_ble_eq_true rfl, Nat.le_of_ble_eq_true rfl⟩) (gn_preS hPc hK hN hDc) rfl rfl hl.1 rfl (lv_room (Nat.le_of_ble_eq_true rfl)) dX0_upperSide_116 ⟨Nat.zero_le _, Nat.zero_le _⟩) hS (fun q _ h => hFc q h) hFc (fun r_24 u t H1 locs ht hvm hq hB hz1 hk1 hS => ?_)
          obtain ⟨hP1, hK1, hD1⟩ := hB
          rw [ht] at hP1
          try dsimp only at hq
          obtain ⟨hP, hD⟩ := va_join (wr := [(aF, .inr (0, [.ref aK, .int made, .int mac])), (aK, .inl (cI, 6, .inl ks))]) (w1 := []) hP hD [] [0, 1] rfl rfl (by decide) (by decide) hk1 hFc hP1 hD1
          have hP := hP.sub (ws' := [(aF, .inr (0, [.ref aK, .int made, .int mac])), (aK, .inl (cI, 6, .inl ks))]) [0, 1] rfl
          have hD := hD.sub (ws' := [(aF, .inr (0, [.ref aK, .int made, .int mac])), (aK, .inl (cI, 6, .inl ks))]) [0, 1] (by decide) rfl
          generalize H1 = H at hP hS ⊢
          refine lv_istore (lv' := [(5, .int r_24), (14, .int t_16), (0, .ref aF), (4, .int v4_5), (6, .int v6_7), (7, .int v7_8), (8, .int v8_9), (9, .int v9_10), (10, .int w10_15), (11, .int v11_12), (12, .int r_13), (13, .int r_14)]) hx hb dX0_upperSide_119 hl (by decide) rfl (fun ls hl => ?_)
          refine lv_iconst (v := 2) hx hb dX0_upperSide_121 (by decide) ?_
          refine lv_iload hx hb dX0_upperSide_122 (lv_at hl 7 rfl) ?_
          refine lv_imul hx hb dX0_upperSide_124 ?_
          refine lv_topi (fun w9_25 ew9_25 => ?_)
          have hq := hq w9_25 ew9_25
          refine lv_istore (lv' := [(9, .int w9_25), (5, .int r_24), (14, .int t_16), (0, .ref aF), (4, .int v4_5), (6, .int v6_7), (7, .int v7_8), (8, .int v8_9), (10, .int w10_15), (11, .int v11_12), (12, .int r_13), (13, .int r_14)]) hx hb dX0_upperSide_125 hl (by decide) rfl (fun ls hl => ?_)
          exact hq _ _ _ hP hD hS (lv_sub hl [3, 4, 1, 5, 6, 7, 0, 8, 9, 2] rfl)
        · have hq := hq.2 hc
          refine lv_iload hx hb dX0_upperSide_86 (lv_at hl 2 rfl) ?_
          refine lv_iload hx hb dX0_upperSide_88 (lv_at hl 6 rfl) ?_
          refine lv_iload hx hb dX0_upperSide_90 (lv_at hl 11 rfl) ?_
          refine lv_iload hx hb dX0_upperSide_92 (lv_at hl 0 rfl) ?_
          have hPc := hP.sub (ws' := []) [] rfl
          have hDc := hD.sub (ws' := []) [] (by decide) rfl
          have hFc := va_free (wc := []) hD hS hA [] rfl
          refine va_calli (va_runS (As := [.int v4_5, .int v8_9, .int r_14, .int t_16]) (rest := []) ⟨hx, hb, hml, hown, hts⟩ (c_X0_placeAhead l dC dI cI cC cS _ v4_5 v8_9 r_14 t_16 hq) (va_cwS 4 hts gX0_upperSide_X0_placeAhead rfl rfl rfl (by decide +kernel) ⟨Nat.le_of_ble_eq_true rfl, Nat.le_of_ble_eq_true rfl⟩) (gn_preS hPc hK hN hDc) rfl rfl hl.1 rfl (lv_room (Nat.le_of_ble_eq_true rfl)) dX0_upperSide_94 ⟨Nat.zero_le _, Nat.zero_le _⟩) hS (fun q _ h => hFc q h) hFc (fun r_26 u t H1 locs ht hvm hq hB hz1 hk1 hS => ?_)
          obtain ⟨hP1, hK1, hD1⟩ := hB
          rw [ht] at hP1
          try dsimp only at hq
          obtain ⟨hP, hD⟩ := va_join (wr := [(aF, .inr (0, [.ref aK, .int made, .int mac])), (aK, .inl (cI, 6, .inl ks))]) (w1 := []) hP hD [] [0, 1] rfl rfl (by decide) (by decide) hk1 hFc hP1 hD1
          have hP := hP.sub (ws' := [(aF, .inr (0, [.ref aK, .int made, .int mac])), (aK, .inl (cI, 6, .inl ks))]) [0, 1] rfl
          have hD := hD.sub (ws' := [(aF, .inr (0, [.ref aK, .int made, .int mac])), (aK, .inl (cI, 6, .inl ks))]) [0, 1] (by decide) rfl
          generalize H1 = H at hP hS ⊢
          refine lv_istore (lv' := [(4, .int r_26), (14, .int t_16), (0, .ref aF), (5, .int v5_6), (6, .int v6_7), (7, .int v7_8), (8, .int v8_9), (9, .int v9_10), (10, .int w10_15), (11, .int v11_12), (12, .int r_13), (13, .int r_14)]) hx hb dX0_upperSide_97 hl (by decide) rfl (fun ls hl => ?_)
          refine lv_iconst (v := 2) hx hb dX0_upperSide_99 (by decide) ?_
          refine lv_iload hx hb dX0_upperSide_100 (lv_at hl 6 rfl) ?_
          refine lv_imul hx hb dX0_upperSide_102 ?_
          refine lv_topi (fun w8_27 ew8_27 => ?_)
          have hq := hq w8_27 ew8_27
          refine lv_istore (lv' := [(8, .int w8_27), (4, .int r_26), (14, .int t_16), (0, .ref aF), (5, .int v5_6), (6, .int v6_7), (7, .int v7_8), (9, .int v9_10), (10, .int w10_15), (11, .int v11_12), (12, .int r_13), (13, .int r_14)]) hx hb dX0_upperSide_103 hl (by decide) rfl (fun ls hl => ?_)
          refine lv_goto (tgt := 127) hx hb dX0_upperSide_105 (by decide) ?_
          exact hq _ _ _ hP hD hS (lv_sub hl [3, 1, 4, 5, 6, 0, 7, 8, 9, 2] rfl))
      refine lv_icmp_ge (tgt := 75) hx hb dX0_upperSide_68 (by decide) (fun hc => ?_) (fun hc => ?_)
      · have hq := hq.1 hc
        refine lv_iconst (v := 0) hx hb dX0_upperSide_75 (by decide) ?_
        exact hq _ _ _ hP hD hS (lv_sub hl [3, 4, 5, 6, 7, 8, 9, 0, 10, 2, 1] rfl)
      · have hq := hq.2 hc
        refine lv_iconst (v := 1) hx hb dX0_upperSide_71 (by decide) ?_
        refine lv_goto (tgt := 76) hx hb dX0_upperSide_72 (by decide) ?_
        exact hq _ _ _ hP hD hS (lv_sub hl [3, 4, 5, 6, 7, 8, 9, 0, 10, 2, 1] rfl))
  exact hq _ _ _ hP hD hS (lv_sub hl [8, 7, 6, 5, 4, 3, 2, 1, 0] rfl)
set_option maxRecDepth 20000 in
theorem kwX0_placeOf_15 : Cond.fieldLink RX0 15 "PunchedFolds$Folding" "made" "I" ∈ wsX0_placeOf := by decide +kernel
set_option maxRecDepth 20000 in
theorem iwX0_placeOf_X0 : ∀ w ∈ wsX00, w ∈ wsX0_placeOf := by decide +kernel
set_option maxHeartbeats 4000000 in
set_option maxRecDepth 100000 in
theorem c_X0_placeOf (l : Launch) (dC : Nat → ClassId) (dI : Nat → Nat → Nat) (cI cC cS : ClassId) (aF : Nat) (aK : Nat) (sz : Nat) (made : Int32) (mac : Int32) (ks : Nat → Int32) (x1 : Int32) (x2 : Int32) {post : Int32 → Prop} (hq : wp_X0_placeOf made ks x1 x2 post) : Met l yX0_placeOf wsX0_placeOf ({ frames := 1, cells := 0, slots := 0, locals := 24 } : Room) (gn_Pre (dC, dI) cI cC cS [.ref aF, .int x1, .int x2] sz [(aF, .inr (0, [.ref aK, .int made, .int mac])), (aK, .inl (cI, 6, .inl ks))]) (va_Qi (fun (r : Int32) (u : Unit) => post r) (fun (u : Unit) t => va_P (dC, dI) vwCl [(aF, .inr (0, [.ref aK, .int made, .int mac])), (aK, .inl (cI, 6, .inl ks))] t.heap ∧ va_K (dC, dI) vwCl (gn_tys cI cC cS) t ∧ va_D (va_A [(aF, .inr (0, [.ref aK, .int made, .int mac])), (aK, .inl (cI, 6, .inl ks))] sz) [(aF, .inr (0, [.ref aK, .int made, .int mac])), (aK, .inl (cI, 6, .inl ks))]) (va_A [(aF, .inr (0, [.ref aK, .int made, .int mac])), (aK, .inl (cI, 6, .inl ks))] sz)) 0 0 (va_A [(aF, .inr (0, [.ref aK, .int made, .int mac])), (aK, .inl (cI, 6, .inl ks))] sz) := by
  unfold wp_X0_placeOf at hq
  refine Met.ofW (cc := cX0_placeOf) (maxL := 17) (ret := (some .int)) (by decide) rfl ?_
  intro p e s m args below meth c s₁ B hml hv
  obtain ⟨rfl, hsz, hP, hK, hN, hD0⟩ := hv
  have hx := B.exec
  have hb := B.bytes
  have hr := B.returns
  have hts := atoms_spec (ws := wsX0_placeOf) B.pre
  have hown : s.vm.findClass RX0 = some m.cls := findClass_of_methodNamed B.named
  have hlocks := B.notSynchronized
  subst hsz
  have hD := hD0.self (sz := s.heap.size)
  generalize hAe : va_A [(aF, .inr (0, [.ref aK, .int made, .int mac])), (aK, .inl (cI, 6, .inl ks))] s.heap.size = A at hD ⊢
  have hA : ∀ q : Nat, s.heap.size ≤ q → A q := fun q h => by rw [← hAe]; exact Or.inr h
  have hS : va_S A s.heap s.heap [] := va_S.rf
  have hl := lv_entry ([.ref aF, .int x1, .int x2] : List Value) (n := 17) (Nat.le_of_ble_eq_true rfl)
  rw [lg_entry_eq]
  generalize (lg_sl ([.ref aF, .int x1, .int x2] : List Value) ++ List.replicate (17 - (lg_sl ([.ref aF, .int x1, .int x2] : List Value)).length) Slot.unset).toArray = ls at hl ⊢
  have hl : lv_has ls 17 [(0, .ref aF), (1, .int x1), (2, .int x2)] := hl
  refine gn_Q (hret := fun Q => ∀ (pc : Nat) (ls : Array Slot) (H : Heap) (locs : List Loc) (r : Int32) , decode cX0_placeOf pc = .ok (.ireturn, 1) → va_P (dC, dI) vwCl [(aF, .inr (0, [.ref aK, .int made, .int mac])), (aK, .inl (cI, 6, .inl ks))] H → va_D A [(aF, .inr (0, [.ref aK, .int made, .int mac])), (aK, .inl (cI, 6, .inl ks))] → va_S A s.heap H locs → post r → W p l e ({ frames := 1, cells := 0, slots := 0, locals := 24 } : Room) s m ([.ref aF, .int x1, .int x2] : List Value).toArray below meth c H locs 0 0 Q (F0 m pc ls [.int r])) (fun Q hret => ?_) ?_
  rotate_left
  · intro pc ls H locs r hdg hP hD hS hpost
    exact W.iret (v := r) hx hb hr (fun t ht hW => ⟨⟨r, (), rfl, hpost, by rw [ht]; exact hP, va_K.moved hW.alike hK, hD⟩, hS.F ht⟩) hS.2.2 hdg
  refine lv_iload_n hx hb dX0_placeOf_0 rfl (lv_at hl 1 rfl) ?_
  refine lv_bipush (v := 8) hx hb dX0_placeOf_1 (by decide) ?_
  refine lv_irem hx hb dX0_placeOf_3 (by decide) ?_
  refine lv_topi (fun w3_1 ew3_1 => ?_)
  have hq := hq w3_1 ew3_1
  refine lv_istore_n (lv' := [(3, .int w3_1), (0, .ref aF), (1, .int x1), (2, .int x2)]) hx hb dX0_placeOf_4 rfl hl (by decide) rfl (fun ls hl => ?_)
  refine lv_iload_n hx hb dX0_placeOf_5 rfl (lv_at hl 2 rfl) ?_
  refine lv_bipush (v := 8) hx hb dX0_placeOf_6 (by decide) ?_
  refine lv_idiv hx hb dX0_placeOf_8 (by decide) ?_
  refine lv_topi (fun w4_2 ew4_2 => ?_)
  have hq := hq w4_2 ew4_2
  refine lv_istore (lv' := [(4, .int w4_2), (3, .int w3_1), (0, .ref aF), (1, .int x1), (2, .int x2)]) hx hb dX0_placeOf_9 hl (by decide) rfl (fun ls hl => ?_)
  refine lv_iconst (v := 0) hx hb dX0_placeOf_11 (by decide) ?_
  refine lv_istore (lv' := [(5, .int (0 : Int32)), (4, .int w4_2), (3, .int w3_1), (0, .ref aF), (1, .int x1), (2, .int x2)]) hx hb dX0_placeOf_12 hl (by decide) rfl (fun ls hl => ?_)
  refine lv_iconst (v := 0) hx hb dX0_placeOf_14 (by decide) ?_
  refine lv_istore (lv' := [(6, .int (0 : Int32)), (5, .int (0 : Int32)), (4, .int w4_2), (3, .int w3_1), (0, .ref aF), (1, .int x1), (2, .int x2)]) hx hb dX0_placeOf_15 hl (by decide) rfl (fun ls hl => ?_)
  refine lv_bipush (v := 8) hx hb dX0_placeOf_17 (by decide) ?_
  refine lv_istore (lv' := [(7, .int (8 : Int32)), (6, .int (0 : Int32)), (5, .int (0 : Int32)), (4, .int w4_2), (3, .int w3_1), (0, .ref aF), (1, .int x1), (2, .int x2)]) hx hb dX0_placeOf_19 hl (by decide) rfl (fun ls hl => ?_)
  refine lv_bipush (v := 8) hx hb dX0_placeOf_21 (by decide) ?_
  refine lv_istore (lv' := [(8, .int (8 : Int32)), (7, .int (8 : Int32)), (6, .int (0 : Int32)), (5, .int (0 : Int32)), (4, .int w4_2), (3, .int w3_1), (0, .ref aF), (1, .int x1), (2, .int x2)]) hx hb dX0_placeOf_23 hl (by decide) rfl (fun ls hl => ?_)
  refine lv_iconst (v := 0) hx hb dX0_placeOf_25 (by decide) ?_
  refine lv_istore (lv' := [(9, .int (0 : Int32)), (8, .int (8 : Int32)), (7, .int (8 : Int32)), (6, .int (0 : Int32)), (5, .int (0 : Int32)), (4, .int w4_2), (3, .int w3_1), (0, .ref aF), (1, .int x1), (2, .int x2)]) hx hb dX0_placeOf_26 hl (by decide) rfl (fun ls hl => ?_)
  have hq := hq (fun (v3_3 : Int32) (v4_4 : Int32) (v5_5 : Int32) (v6_6 : Int32) (v7_7 : Int32) (v8_8 : Int32) (v9_9 : Int32) => ∀ (H : Heap) (locs : List Loc) (ls : Array Slot), va_P (dC, dI) vwCl [(aF, .inr (0, [.ref aK, .int made, .int mac])), (aK, .inl (cI, 6, .inl ks))] H → va_D A [(aF, .inr (0, [.ref aK, .int made, .int mac])), (aK, .inl (cI, 6, .inl ks))] → va_S A s.heap H locs → lv_has ls 17 [(0, .ref aF), (2, .int x2), (3, .int v3_3), (4, .int v4_4), (5, .int v5_5), (6, .int v6_6), (7, .int v7_7), (8, .int v8_8), (9, .int v9_9)] → W p l e ({ frames := 1, cells := 0, slots := 0, locals := 24 } : Room) s m ([.ref aF, .int x1, .int x2] : List Value).toArray below meth c H locs 0 0 Q (F0 m 28 ls [])) (by
    intro v3_3 v4_4 v5_5 v6_6 v7_7 v8_8 v9_9 hq H locs ls hP hD hS hl
    refine lv_iload hx hb dX0_placeOf_28 (lv_at hl 8 rfl) ?_
    refine lv_aload_n hx hb dX0_placeOf_30 rfl (lv_at hl 0 rfl) ?_
    refine va_get (D := (dC, dI)) (ci := 0) (v := .int made) (C := RX0) (T := TX0) (N := 3) hx hb hts iwX0_placeOf_X0 hown hK hP 0 rfl rfl 1 (by decide) (hts _ kwX0_placeOf_15) (fun _ h9 => h9) rfl dX0_placeOf_31 ?_
    refine lv_icmp_ge (tgt := 202) hx hb dX0_placeOf_34 (by decide) (fun hc => ?_) (fun hc => ?_)
    · have hq := hq.1 hc
      refine lv_iload_n hx hb dX0_placeOf_202 rfl (lv_at hl 1 rfl) ?_
      refine lv_if_ne (tgt := 210) hx hb dX0_placeOf_203 (by decide) (fun hc => ?_) (fun hc => ?_)
      · have hq := hq.1 hc
        refine lv_iload_n hx hb dX0_placeOf_210 rfl (lv_at hl 1 rfl) ?_
        refine lv_iconst (v := 1) hx hb dX0_placeOf_211 (by decide) ?_
        refine lv_icmp_ne (tgt := 220) hx hb dX0_placeOf_212 (by decide) (fun hc => ?_) (fun hc => ?_)
        · have hq := hq.1 hc
          refine lv_iload_n hx hb dX0_placeOf_220 rfl (lv_at hl 1 rfl) ?_
          refine lv_iconst (v := 2) hx hb dX0_placeOf_221 (by decide) ?_
          refine lv_icmp_ne (tgt := 230) hx hb dX0_placeOf_222 (by decide) (fun hc => ?_) (fun hc => ?_)
          · have hq := hq.1 hc
            refine lv_iload hx hb dX0_placeOf_230 (lv_at hl 5 rfl) ?_
            exact hret _ _ _ _ _ dX0_placeOf_232 hP hD hS hq
          · have hq := hq.2 hc
            refine lv_iload hx hb dX0_placeOf_225 (lv_at hl 4 rfl) ?_
            refine lv_goto (tgt := 232) hx hb dX0_placeOf_227 (by decide) ?_
            exact hret _ _ _ _ _ dX0_placeOf_232 hP hD hS hq
        · have hq := hq.2 hc
          refine lv_iload hx hb dX0_placeOf_215 (lv_at hl 3 rfl) ?_
          refine lv_goto (tgt := 232) hx hb dX0_placeOf_217 (by decide) ?_
          exact hret _ _ _ _ _ dX0_placeOf_232 hP hD hS hq
      · have hq := hq.2 hc
        refine lv_iload_n hx hb dX0_placeOf_206 rfl (lv_at hl 2 rfl) ?_
        refine lv_goto (tgt := 232) hx hb dX0_placeOf_207 (by decide) ?_
        exact hret _ _ _ _ _ dX0_placeOf_232 hP hD hS hq
    · have hq := hq.2 hc
      refine lv_aload_n hx hb dX0_placeOf_37 rfl (lv_at hl 0 rfl) ?_
      refine lv_iload hx hb dX0_placeOf_38 (lv_at hl 8 rfl) ?_
      have hPc := hP.sub (ws' := [(aF, .inr (0, [.ref aK, .int made, .int mac])), (aK, .inl (cI, 6, .inl ks))]) [0, 1] rfl
      have hDc := hD.sub (ws' := [(aF, .inr (0, [.ref aK, .int made, .int mac])), (aK, .inl (cI, 6, .inl ks))]) [0, 1] (by decide) rfl
      have hFc := va_free (wc := [(aF, .inr (0, [.ref aK, .int made, .int mac])), (aK, .inl (cI, 6, .inl ks))]) hD hS hA [0, 1] rfl
      refine va_calli (va_runV (As := [.int v9_9]) (rest := []) ⟨hx, hb, hml, hown, hts⟩ (c_X0_kindOf l dC dI cI cC cS aF aK _ made mac ks v9_9 hq) (cwV 1 hts gX0_placeOf_X0_kindOf rfl rfl rfl (by decide +kernel) ⟨Nat.le_of_ble_eq_true rfl, Nat.le_of_ble_eq_true rfl⟩) (gn_preV hPc hK hN hDc (ci := 0) (q0 := 0) rfl rfl) rfl rfl hl.1 rfl (lv_room (Nat.le_of_ble_eq_true rfl)) dX0_placeOf_40 ⟨Nat.zero_le _, Nat.zero_le _⟩) hS (fun q _ h => hFc q h) hFc (fun r_10 u t H1 locs ht hvm hq hB hz1 hk1 hS => ?_)
      obtain ⟨hP1, hK1, hD1⟩ := hB
      rw [ht] at hP1
      try dsimp only at hq
      obtain ⟨hP, hD⟩ := va_join (wr := []) (w1 := [(aF, .inr (0, [.ref aK, .int made, .int mac])), (aK, .inl (cI, 6, .inl ks))]) hP hD [0, 1] [] rfl rfl (by decide) (by decide) hk1 hFc hP1 hD1
      have hP := hP.sub (ws' := [(aF, .inr (0, [.ref aK, .int made, .int mac])), (aK, .inl (cI, 6, .inl ks))]) [0, 1] rfl
      have hD := hD.sub (ws' := [(aF, .inr (0, [.ref aK, .int made, .int mac])), (aK, .inl (cI, 6, .inl ks))]) [0, 1] (by decide) rfl
      generalize H1 = H at hP hS ⊢
      refine lv_istore (lv' := [(10, .int r_10), (0, .ref aF), (2, .int x2), (3, .int v3_3), (4, .int v4_4), (5, .int v5_5), (6, .int v6_6), (7, .int v7_7), (8, .int v8_8), (9, .int v9_9)]) hx hb dX0_placeOf_43 hl (by decide) rfl (fun ls hl => ?_)
      refine lv_iload hx hb dX0_placeOf_45 (lv_at hl 0 rfl) ?_
      have hPc := hP.sub (ws' := []) [] rfl
      have hDc := hD.sub (ws' := []) [] (by decide) rfl
      have hFc := va_free (wc := []) hD hS hA [] rfl
      refine va_calli (va_runS (As := [.int r_10]) (rest := []) ⟨hx, hb, hml, hown, hts⟩ (c_X0_isAcross l dC dI cI cC cS _ r_10 hq) (va_cwS 1 hts gX0_placeOf_X0_isAcross rfl rfl rfl (by decide +kernel) ⟨Nat.le_of_ble_eq_true rfl, Nat.le_of_ble_eq_true rfl⟩) (gn_preS hPc hK hN hDc) rfl rfl hl.1 rfl (lv_room (Nat.le_of_ble_eq_true rfl)) dX0_placeOf_47 ⟨Nat.zero_le _, Nat.zero_le _⟩) hS (fun q _ h => hFc q h) hFc (fun r_11 u t H1 locs ht hvm hq hB hz1 hk1 hS => ?_)
      obtain ⟨hP1, hK1, hD1⟩ := hB
      rw [ht] at hP1
      try dsimp only at hq
      obtain ⟨hP, hD⟩ := va_join (wr := [(aF, .inr (0, [.ref aK, .int made, .int mac])), (aK, .inl (cI, 6, .inl ks))]) (w1 := []) hP hD [] [0, 1] rfl rfl (by decide) (by decide) hk1 hFc hP1 hD1
      have hP := hP.sub (ws' := [(aF, .inr (0, [.ref aK, .int made, .int mac])), (aK, .inl (cI, 6, .inl ks))]) [0, 1] rfl
      have hD := hD.sub (ws' := [(aF, .inr (0, [.ref aK, .int made, .int mac])), (aK, .inl (cI, 6, .inl ks))]) [0, 1] (by decide) rfl
      generalize H1 = H at hP hS ⊢
      refine lv_istore (lv' := [(11, .int r_11), (10, .int r_10), (0, .ref aF), (2, .int x2), (3, .int v3_3), (4, .int v4_4), (5, .int v5_5), (6, .int v6_6), (7, .int v7_7), (8, .int v8_8), (9, .int v9_9)]) hx hb dX0_placeOf_50 hl (by decide) rfl (fun ls hl => ?_)
      refine lv_iload hx hb dX0_placeOf_52 (lv_at hl 0 rfl) ?_
      have hq := hq (fun (t_12 : Int32) => ∀ (H : Heap) (locs : List Loc) (ls : Array Slot), va_P (dC, dI) vwCl [(aF, .inr (0, [.ref aK, .int made, .int mac])), (aK, .inl (cI, 6, .inl ks))] H → va_D A [(aF, .inr (0, [.ref aK, .int made, .int mac])), (aK, .inl (cI, 6, .inl ks))] → va_S A s.heap H locs → lv_has ls 17 [(0, .ref aF), (2, .int x2), (3, .int v3_3), (4, .int v4_4), (5, .int v5_5), (6, .int v6_6), (7, .int v7_7), (8, .int v8_8), (9, .int v9_9), (10, .int r_10), (11, .int r_11)] → W p l e ({ frames := 1, cells := 0, slots := 0, locals := 24 } : Room) s m ([.ref aF, .int x1, .int x2] : List Value).toArray below meth c H locs 0 0 Q (F0 m 64 ls [.int t_12])) (by
        intro t_12 hq H locs ls hP hD hS hl
        refine lv_iconst (v := 2) hx hb dX0_placeOf_64 (by decide) ?_
        refine lv_idiv hx hb dX0_placeOf_65 (by decide) ?_
        refine lv_topi (fun w12_13 ew12_13 => ?_)
        have hq := hq w12_13 ew12_13
        refine lv_istore (lv' := [(12, .int w12_13), (0, .ref aF), (2, .int x2), (3, .int v3_3), (4, .int v4_4), (5, .int v5_5), (6, .int v6_6), (7, .int v7_7), (8, .int v8_8), (9, .int v9_9), (10, .int r_10), (11, .int r_11)]) hx hb dX0_placeOf_66 hl (by decide) rfl (fun ls hl => ?_)
        refine lv_iload hx hb dX0_placeOf_68 (lv_at hl 10 rfl) ?_
        have hPc := hP.sub (ws' := []) [] rfl
        have hDc := hD.sub (ws' := []) [] (by decide) rfl
        have hFc := va_free (wc := []) hD hS hA [] rfl
        refine va_calli (va_runS (As := [.int r_10]) (rest := []) ⟨hx, hb, hml, hown, hts⟩ (c_X0_movesFirstHalf l dC dI cI cC cS _ r_10 hq) (va_cwS 1 hts gX0_placeOf_X0_movesFirstHalf rfl rfl rfl (by decide +kernel) ⟨Nat.le_of_ble_eq_true rfl, Nat.le_of_ble_eq_true rfl⟩) (gn_preS hPc hK hN hDc) rfl rfl hl.1 rfl (lv_room (Nat.le_of_ble_eq_true rfl)) dX0_placeOf_70 ⟨Nat.zero_le _, Nat.zero_le _⟩) hS (fun q _ h => hFc q h) hFc (fun r_14 u t H1 locs ht hvm hq hB hz1 hk1 hS => ?_)
        obtain ⟨hP1, hK1, hD1⟩ := hB
        rw [ht] at hP1
        try dsimp only at hq
        obtain ⟨hP, hD⟩ := va_join (wr := [(aF, .inr (0, [.ref aK, .int made, .int mac])), (aK, .inl (cI, 6, .inl ks))]) (w1 := []) hP hD [] [0, 1] rfl rfl (by decide) (by decide) hk1 hFc hP1 hD1
        have hP := hP.sub (ws' := [(aF, .inr (0, [.ref aK, .int made, .int mac])), (aK, .inl (cI, 6, .inl ks))]) [0, 1] rfl
        have hD := hD.sub (ws' := [(aF, .inr (0, [.ref aK, .int made, .int mac])), (aK, .inl (cI, 6, .inl ks))]) [0, 1] (by decide) rfl
        generalize H1 = H at hP hS ⊢
        refine lv_istore (lv' := [(13, .int r_14), (12, .int w12_13), (0, .ref aF), (2, .int x2), (3, .int v3_3), (4, .int v4_4), (5, .int v5_5), (6, .int v6_6), (7, .int v7_7), (8, .int v8_8), (9, .int v9_9), (10, .int r_10), (11, .int r_11)]) hx hb dX0_placeOf_73 hl (by decide) rfl (fun ls hl => ?_)
        refine lv_iload hx hb dX0_placeOf_75 (lv_at hl 12 rfl) ?_
        have hq := hq (fun (t_15 : Int32) => ∀ (H : Heap) (locs : List Loc) (ls : Array Slot), va_P (dC, dI) vwCl [(aF, .inr (0, [.ref aK, .int made, .int mac])), (aK, .inl (cI, 6, .inl ks))] H → va_D A [(aF, .inr (0, [.ref aK, .int made, .int mac])), (aK, .inl (cI, 6, .inl ks))] → va_S A s.heap H locs → lv_has ls 17 [(0, .ref aF), (2, .int x2), (3, .int v3_3), (4, .int v4_4), (5, .int v5_5), (6, .int v6_6), (7, .int v7_7), (8, .int v8_8), (9, .int v9_9), (11, .int r_11), (12, .int w12_13), (13, .int r_14)] → W p l e ({ frames := 1, cells := 0, slots := 0, locals := 24 } : Room) s m ([.ref aF, .int x1, .int x2] : List Value).toArray below meth c H locs 0 0 Q (F0 m 86 ls [.int t_15])) (by
          intro t_15 hq H locs ls hP hD hS hl
          refine lv_iload hx hb dX0_placeOf_86 (lv_at hl 10 rfl) ?_
          have hq := hq (fun (t_16 : Int32) => ∀ (H : Heap) (locs : List Loc) (ls : Array Slot), va_P (dC, dI) vwCl [(aF, .inr (0, [.ref aK, .int made, .int mac])), (aK, .inl (cI, 6, .inl ks))] H → va_D A [(aF, .inr (0, [.ref aK, .int made, .int mac])), (aK, .inl (cI, 6, .inl ks))] → va_S A s.heap H locs → lv_has ls 17 [(0, .ref aF), (2, .int x2), (3, .int v3_3), (4, .int v4_4), (5, .int v5_5), (6, .int v6_6), (7, .int v7_7), (8, .int v8_8), (9, .int v9_9), (11, .int r_11), (12, .int w12_13), (13, .int r_14)] → W p l e ({ frames := 1, cells := 0, slots := 0, locals := 24 } : Room) s m ([.ref aF, .int x1, .int x2] : List Value).toArray below meth c H locs 0 0 Q (F0 m 96 ls [.int t_16])) (by
            intro t_16 hq H locs ls hP hD hS hl
            refine lv_istore (lv' := [(14, .int t_16), (0, .ref aF), (2, .int x2), (3, .int v3_3), (4, .int v4_4), (5, .int v5_5), (6, .int v6_6), (7, .int v7_7), (8, .int v8_8), (9, .int v9_9), (11, .int r_11), (12, .int w12_13), (13, .int r_14)]) hx hb dX0_placeOf_96 hl (by decide) rfl (fun ls hl => ?_)
            refine lv_iload hx hb dX0_placeOf_98 (lv_at hl 0 rfl) ?_
            refine lv_iload hx hb dX0_placeOf_100 (lv_at hl 12 rfl) ?_
            have hq := hq (fun (t_17 : Int32) => ∀ (H : Heap) (locs : List Loc) (ls : Array Slot), va_P (dC, dI) vwCl [(aF, .inr (0, [.ref aK, .int made, .int mac])), (aK, .inl (cI, 6, .inl ks))] H → va_D A [(aF, .inr (0, [.ref aK, .int made, .int mac])), (aK, .inl (cI, 6, .inl ks))] → va_S A s.heap H locs → lv_has ls 17 [(0, .ref aF), (2, .int x2), (3, .int v3_3), (4, .int v4_4), (5, .int v5_5), (6, .int v6_6), (7, .int v7_7), (8, .int v8_8), (9, .int v9_9), (11, .int r_11), (12, .int w12_13), (13, .int r_14)] → W p l e ({ frames := 1, cells := 0, slots := 0, locals := 24 } : Room) s m ([.ref aF, .int x1, .int x2] : List Value).toArray below meth c H locs 0 0 Q (F0 m 110 ls [.int t_17])) (by
              intro t_17 hq H locs ls hP hD hS hl
              refine lv_istore (lv' := [(15, .int t_17), (0, .ref aF), (2, .int x2), (3, .int v3_3), (4, .int v4_4), (5, .int v5_5), (6, .int v6_6), (7, .int v7_7), (8, .int v8_8), (9, .int v9_9), (11, .int r_11), (12, .int w12_13), (13, .int r_14)]) hx hb dX0_placeOf_110 hl (by decide) rfl (fun ls hl => ?_)
              refine lv_iload hx hb dX0_placeOf_112 (lv_at hl 10 rfl) ?_
              have hq := hq (fun (v3_18 : Int32) (v4_19 : Int32) (v7_20 : Int32) (v8_21 : Int32) => ∀ (H : Heap) (locs : List Loc) (ls : Array Slot), va_P (dC, dI) vwCl [(aF, .inr (0, [.ref aK, .int made, .int mac])), (aK, .inl (cI, 6, .inl ks))] H → va_D A [(aF, .inr (0, [.ref aK, .int made, .int mac])), (aK, .inl (cI, 6, .inl ks))] → va_S A s.heap H locs → lv_has ls 17 [(0, .ref aF), (2, .int x2), (3, .int v3_18), (4, .int v4_19), (5, .int v5_5), (6, .int v6_6), (7, .int v7_20), (8, .int v8_21), (9, .int v9_9), (15, .int t_17)] → W p l e ({ frames := 1, cells := 0, slots := 0, locals := 24 } : Room) s m ([.ref aF, .int x1, .int x2] : List Value).toArray below meth c H locs 0 0 Q (F0 m 152 ls [])) (by
                intro v3_18 v4_19 v7_20 v8_21 hq H locs ls hP hD hS hl
                refine lv_iconst (v := 1) hx hb dX0_placeOf_152 (by decide) ?_
                refine lv_iload hx hb dX0_placeOf_153 (lv_at hl 8 rfl) ?_
                refine lv_ishl hx hb dX0_placeOf_155 ?_
                refine lv_topi (fun w16_22 ew16_22 => ?_)
                have hq := hq w16_22 ew16_22
                refine lv_istore (lv' := [(16, .int w16_22), (0, .ref aF), (2, .int x2), (3, .int v3_18), (4, .int v4_19), (5, .int v5_5), (6, .int v6_6), (7, .int v7_20), (8, .int v8_21), (9, .int v9_9), (15, .int t_17)]) hx hb dX0_placeOf_156 hl (by decide) rfl (fun ls hl => ?_)
                refine lv_iload hx hb dX0_placeOf_158 (lv_at hl 10 rfl) ?_
                have hq := hq (fun (t_23 : Int32) => ∀ (H : Heap) (locs : List Loc) (ls : Array Slot), va_P (dC, dI) vwCl [(aF, .inr (0, [.ref aK, .int made, .int mac])), (aK, .inl (cI, 6, .inl ks))] H → va_D A [(aF, .inr (0, [.ref aK, .int made, .int mac])), (aK, .inl (cI, 6, .inl ks))] → va_S A s.heap H locs → lv_has ls 17 [(0, .ref aF), (2, .int x2), (3, .int v3_18), (4, .int v4_19), (6, .int v6_6), (7, .int v7_20), (8, .int v8_21), (9, .int v9_9), (15, .int t_17)] → W p l e ({ frames := 1, cells := 0, slots := 0, locals := 24 } : Room) s m ([.ref aF, .int x1, .int x2] : List Value).toArray below meth c H locs 0 0 Q (F0 m 178 ls [.int t_23])) (by
                  intro t_23 hq H locs ls hP hD hS hl
                  refine lv_istore (lv' := [(5, .int t_23), (0, .ref aF), (2, .int x2), (3, .int v3_18), (4, .int v4_19), (6, .int v6_6), (7, .int v7_20), (8, .int v8_21), (9, .int v9_9), (15, .int t_17)]) hx hb dX0_placeOf_178 hl (by decide) rfl (fun ls hl => ?_)
                  refine lv_iload hx hb dX0_placeOf_180 (lv_at hl 9 rfl) ?_
                  have hq := hq (fun (t_24 : Int32) => ∀ (H : Heap) (locs : List Loc) (ls : Array Slot), va_P (dC, dI) vwCl [(aF, .inr (0, [.ref aK, .int made, .int mac])), (aK, .inl (cI, 6, .inl ks))] H → va_D A [(aF, .inr (0, [.ref aK, .int made, .int mac])), (aK, .inl (cI, 6, .inl ks))] → va_S A s.heap H locs → lv_has ls 17 [(0, .ref aF), (2, .int x2), (3, .int v3_18), (4, .int v4_19), (5, .int t_23), (7, .int v7_20), (8, .int v8_21), (9, .int v9_9)] → W p l e ({ frames := 1, cells := 0, slots := 0, locals := 24 } : Room) s m ([.ref aF, .int x1, .int x2] : List Value).toArray below meth c H locs 0 0 Q (F0 m 194 ls [.int t_24])) (by
                    intro t_24 hq H locs ls hP hD hS hl
                    refine lv_istore (lv' := [(6, .int t_24), (0, .ref aF), (2, .int x2), (3, .int v3_18), (4, .int v4_19), (5, .int t_23), (7, .int v7_20), (8, .int v8_21), (9, .int v9_9)]) hx hb dX0_placeOf_194 hl (by decide) rfl (fun ls hl => ?_)
                    refine lv_iinc (v := (v9_9 + (1 : Int32))) (lv' := [(9, .int (v9_9 + (1 : Int32))), (6, .int t_24), (0, .ref aF), (2, .int x2), (3, .int v3_18), (4, .int v4_19), (5, .int t_23), (7, .int v7_20), (8, .int v8_21)]) hx hb dX0_placeOf_196 hl (k := 8) rfl rfl (by decide) rfl (fun ls hl => ?_)
                    refine lv_goto (tgt := 28) hx hb dX0_placeOf_199 (by decide) ?_
                    exact hq _ _ _ hP hD hS (lv_sub hl [2, 3, 4, 5, 6, 1, 7, 8, 0] rfl))
                  refine lv_if_eq (tgt := 192) hx hb dX0_placeOf_182 (by decide) (fun hc => ?_) (fun hc => ?_)
                  · have hq := hq.1 hc
                    refine lv_iload hx hb dX0_placeOf_192 (lv_at hl 5 rfl) ?_
                    exact hq _ _ _ hP hD hS (lv_sub hl [1, 2, 3, 4, 0, 6, 7, 8] rfl)
                  · have hq := hq.2 hc
                    refine lv_iconst (v := 1) hx hb dX0_placeOf_185 (by decide) ?_
                    refine lv_iload hx hb dX0_placeOf_186 (lv_at hl 5 rfl) ?_
                    refine lv_isub hx hb dX0_placeOf_188 ?_
                    refine lv_goto (tgt := 194) hx hb dX0_placeOf_189 (by decide) ?_
                    exact hq _ _ _ hP hD hS (lv_sub hl [1, 2, 3, 4, 0, 6, 7, 8] rfl))
                refine lv_if_eq (tgt := 173) hx hb dX0_placeOf_160 (by decide) (fun hc => ?_) (fun hc => ?_)
                · have hq := hq.1 hc
                  refine lv_iload hx hb dX0_placeOf_173 (lv_at hl 0 rfl) ?_
                  refine lv_iload hx hb dX0_placeOf_175 (lv_at hl 5 rfl) ?_
                  refine lv_iadd hx hb dX0_placeOf_177 ?_
                  exact hq _ _ _ hP hD hS (lv_sub hl [1, 2, 3, 4, 6, 7, 8, 9, 10] rfl)
                · have hq := hq.2 hc
                  refine lv_iload hx hb dX0_placeOf_163 (lv_at hl 0 rfl) ?_
                  refine lv_iconst (v := 1) hx hb dX0_placeOf_165 (by decide) ?_
                  refine lv_isub hx hb dX0_placeOf_166 ?_
                  refine lv_iload hx hb dX0_placeOf_167 (lv_at hl 5 rfl) ?_
                  refine lv_isub hx hb dX0_placeOf_169 ?_
                  refine lv_goto (tgt := 178) hx hb dX0_placeOf_170 (by decide) ?_
                  exact hq _ _ _ hP hD hS (lv_sub hl [1, 2, 3, 4, 6, 7, 8, 9, 10] rfl))
              refine lv_if_eq (tgt := 135) hx hb dX0_placeOf_114 (by decide) (fun hc => ?_) (fun hc => ?_)
              · have hq := hq.1 hc
                refine lv_iload hx hb dX0_placeOf_135 (lv_at hl 4 rfl) ?_
                refine lv_iload hx hb dX0_placeOf_137 (lv_at hl 11 rfl) ?_
                refine lv_iload hx hb dX0_placeOf_139 (lv_at hl 12 rfl) ?_
                refine lv_iload hx hb dX0_placeOf_141 (lv_at hl 0 rfl) ?_
                have hPc := hP.sub (ws' := []) [] rfl
                have hDc := hD.sub (ws' := []) [] (by decide) rfl
                have hFc := va_free (wc := []) hD hS hA [] rfl
                refine va_calli (va_runS (As := [.int v4_4, .int w12_13, .int r_14, .int t_17]) (rest := []) ⟨hx, hb, hml, hown, hts⟩ (c_X0_placeAfter l dC dI cI cC cS _ v4_4 w12_13 r_14 t_17 hq) (va_cwS 4 hts gX0_placeOf_X0_placeAfter rfl rfl rfl (by decide +kernel) ⟨Nat.le_of_ble_eq_true rfl, Nat.le_of_ble_eq_true rfl⟩) (gn_preS hPc hK hN hDc) rfl rfl hl.1 rfl (lv_room (Nat.le_of_ble_eq_true rfl)) dX0_placeOf_143 ⟨Nat.zero_le _, Nat.zero_le _⟩) hS (fun q _ h => hFc q h) hFc (fun r_25 u t H1 locs ht hvm hq hB hz1 hk1 hS => ?_)
                obtain ⟨hP1, hK1, hD1⟩ := hB
                rw [ht] at hP1
                try dsimp only at hq
                obtain ⟨hP, hD⟩ := va_join (wr := [(aF, .inr (0, [.ref aK, .int made, .int mac])), (aK, .inl (cI, 6, .inl ks))]) (w1 := []) hP hD [] [0, 1] rfl rfl (by decide) (by decide) hk1 hFc hP1 hD1
                have hP := hP.sub (ws' := [(aF, .inr (0, [.ref aK, .int made, .int mac])), (aK, .inl (cI, 6, .inl ks))]) [0, 1] rfl
                have hD := hD.sub (ws' := [(aF, .inr (0, [.ref aK, .int made, .int mac])), (aK, .inl (cI, 6, .inl ks))]) [0, 1] (by decide) rfl
                generalize H1 = H at hP hS ⊢
                refine lv_istore (lv' := [(4, .int r_25), (15, .int t_17), (0, .ref aF), (2, .int x2), (3, .int v3_3), (5, .int v5_5), (6, .int v6_6), (7, .int v7_7), (8, .int v8_8), (9, .int v9_9), (11, .int r_11), (12, .int w12_13), (13, .int r_14)]) hx hb dX0_placeOf_146 hl (by decide) rfl (fun ls hl => ?_)
                refine lv_iload hx hb dX0_placeOf_148 (lv_at hl 11 rfl) ?_
                refine lv_istore (lv' := [(8, .int w12_13), (4, .int r_25), (15, .int t_17), (0, .ref aF), (2, .int x2), (3, .int v3_3), (5, .int v5_5), (6, .int v6_6), (7, .int v7_7), (9, .int v9_9), (11, .int r_11), (12, .int w12_13), (13, .int r_14)]) hx hb dX0_placeOf_150 hl (by decide) rfl (fun ls hl => ?_)
                exact hq _ _ _ hP hD hS (lv_sub hl [3, 4, 5, 1, 6, 7, 8, 0, 9, 2] rfl)
              · have hq := hq.2 hc
                refine lv_iload_n hx hb dX0_placeOf_117 rfl (lv_at hl 3 rfl) ?_
                refine lv_iload hx hb dX0_placeOf_118 (lv_at hl 11 rfl) ?_
                refine lv_iload hx hb dX0_placeOf_120 (lv_at hl 12 rfl) ?_
                refine lv_iload hx hb dX0_placeOf_122 (lv_at hl 0 rfl) ?_
                have hPc := hP.sub (ws' := []) [] rfl
                have hDc := hD.sub (ws' := []) [] (by decide) rfl
                have hFc := va_free (wc := []) hD hS hA [] rfl
                refine va_calli (va_runS (As := [.int v3_3, .int w12_13, .int r_14, .int t_17]) (rest := []) ⟨hx, hb, hml, hown, hts⟩ (c_X0_placeAfter l dC dI cI cC cS _ v3_3 w12_13 r_14 t_17 hq) (va_cwS 4 hts gX0_placeOf_X0_placeAfter rfl rfl rfl (by decide +kernel) ⟨Nat.le_of_ble_eq_true rfl, Nat.le_of_ble_eq_true rfl⟩) (gn_preS hPc hK hN hDc) rfl rfl hl.1 rfl (lv_room (Nat.le_of_ble_eq_true rfl)) dX0_placeOf_124 ⟨Nat.zero_le _, Nat.zero_le _⟩) hS (fun q _ h => hFc q h) hFc (fun r_26 u t H1 locs ht hvm hq hB hz1 hk1 hS => ?_)
                obtain ⟨hP1, hK1, hD1⟩ := hB
                rw [ht] at hP1
                try dsimp only at hq
                obtain ⟨hP, hD⟩ := va_join (wr := [(aF, .inr (0, [.ref aK, .int made, .int mac])), (aK, .inl (cI, 6, .inl ks))]) (w1 := []) hP hD [] [0, 1] rfl rfl (by decide) (by decide) hk1 hFc hP1 hD1
                have hP := hP.sub (ws' := [(aF, .inr (0, [.ref aK, .int made, .int mac])), (aK, .inl (cI, 6, .inl ks))]) [0, 1] rfl
                have hD := hD.sub (ws' := [(aF, .inr (0, [.ref aK, .int made, .int mac])), (aK, .inl (cI, 6, .inl ks))]) [0, 1] (by decide) rfl
                generalize H1 = H at hP hS ⊢
                refine lv_istore_n (lv' := [(3, .int r_26), (15, .int t_17), (0, .ref aF), (2, .int x2), (4, .int v4_4), (5, .int v5_5), (6, .int v6_6), (7, .int v7_7), (8, .int v8_8), (9, .int v9_9), (11, .int r_11), (12, .int w12_13), (13, .int r_14)]) hx hb dX0_placeOf_127 rfl hl (by decide) rfl (fun ls hl => ?_)
                refine lv_iload hx hb dX0_placeOf_128 (lv_at hl 11 rfl) ?_
                refine lv_istore (lv' := [(7, .int w12_13), (3, .int r_26), (15, .int t_17), (0, .ref aF), (2, .int x2), (4, .int v4_4), (5, .int v5_5), (6, .int v6_6), (8, .int v8_8), (9, .int v9_9), (11, .int r_11), (12, .int w12_13), (13, .int r_14)]) hx hb dX0_placeOf_130 hl (by decide) rfl (fun ls hl => ?_)
                refine lv_goto (tgt := 152) hx hb dX0_placeOf_132 (by decide) ?_
                exact hq _ _ _ hP hD hS (lv_sub hl [3, 4, 1, 5, 6, 7, 0, 8, 9, 2] rfl))
            refine lv_icmp_ne (tgt := 109) hx hb dX0_placeOf_102 (by decide) (fun hc => ?_) (fun hc => ?_)
            · have hq := hq.1 hc
              refine lv_iconst (v := 0) hx hb dX0_placeOf_109 (by decide) ?_
              exact hq _ _ _ hP hD hS (lv_sub hl [1, 2, 3, 4, 5, 6, 7, 8, 9, 10, 11, 12] rfl)
            · have hq := hq.2 hc
              refine lv_iconst (v := 1) hx hb dX0_placeOf_105 (by decide) ?_
              refine lv_goto (tgt := 110) hx hb dX0_placeOf_106 (by decide) ?_
              exact hq _ _ _ hP hD hS (lv_sub hl [1, 2, 3, 4, 5, 6, 7, 8, 9, 10, 11, 12] rfl))
          refine lv_icmp_ge (tgt := 95) hx hb dX0_placeOf_88 (by decide) (fun hc => ?_) (fun hc => ?_)
          · have hq := hq.1 hc
            refine lv_iconst (v := 0) hx hb dX0_placeOf_95 (by decide) ?_
            exact hq _ _ _ hP hD hS (lv_sub hl [0, 1, 2, 3, 4, 5, 6, 7, 8, 9, 10, 11] rfl)
          · have hq := hq.2 hc
            refine lv_iconst (v := 1) hx hb dX0_placeOf_91 (by decide) ?_
            refine lv_goto (tgt := 96) hx hb dX0_placeOf_92 (by decide) ?_
            exact hq _ _ _ hP hD hS (lv_sub hl [0, 1, 2, 3, 4, 5, 6, 7, 8, 9, 10, 11] rfl))
        refine lv_if_eq (tgt := 84) hx hb dX0_placeOf_77 (by decide) (fun hc => ?_) (fun hc => ?_)
        · have hq := hq.1 hc
          refine lv_iload hx hb dX0_placeOf_84 (lv_at hl 5 rfl) ?_
          exact hq _ _ _ hP hD hS (lv_sub hl [2, 3, 4, 5, 6, 7, 8, 9, 10, 12, 1, 0] rfl)
        · have hq := hq.2 hc
          refine lv_iload_n hx hb dX0_placeOf_80 rfl (lv_at hl 4 rfl) ?_
          refine lv_goto (tgt := 86) hx hb dX0_placeOf_81 (by decide) ?_
          exact hq _ _ _ hP hD hS (lv_sub hl [2, 3, 4, 5, 6, 7, 8, 9, 10, 12, 1, 0] rfl))
      refine lv_if_eq (tgt := 62) hx hb dX0_placeOf_54 (by decide) (fun hc => ?_) (fun hc => ?_)
      · have hq := hq.1 hc
        refine lv_iload hx hb dX0_placeOf_62 (lv_at hl 9 rfl) ?_
        exact hq _ _ _ hP hD hS (lv_sub hl [2, 3, 4, 5, 6, 7, 8, 9, 10, 1, 0] rfl)
      · have hq := hq.2 hc
        refine lv_iload hx hb dX0_placeOf_57 (lv_at hl 8 rfl) ?_
        refine lv_goto (tgt := 64) hx hb dX0_placeOf_59 (by decide) ?_
        exact hq _ _ _ hP hD hS (lv_sub hl [2, 3, 4, 5, 6, 7, 8, 9, 10, 1, 0] rfl))
  exact hq _ _ _ hP hD hS (lv_sub hl [7, 9, 6, 5, 4, 3, 2, 1, 0] rfl)
