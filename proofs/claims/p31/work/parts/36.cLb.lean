def wp_L_pieces (vh : Nat → Int32) (post : Int32 → Prop) : Prop :=
  ∀ (P18 : Int32 → Int32 → Int32 → (Nat → Int32) → (Nat → Int32) → Prop), (∀ (v3_1 : Int32) (v4_2 : Int32) (v5_3 : Int32) (vseen__4 : Nat → Int32) (vnext__5 : Nat → Int32), ((((64 : Int32) ≤ v5_3) → post (v3_1 + ((100 : Int32) * v4_2))) ∧ ((¬ (64 : Int32) ≤ v5_3) → vp_in v5_3 64 ∧ (∀ (P253 : Int32 → Int32 → (Nat → Int32) → (Nat → Int32) → Prop), (∀ (v3_6 : Int32) (v4_7 : Int32) (vseen__8 : Nat → Int32) (vnext__9 : Nat → Int32), (P18 v3_6 v4_7 (v5_3 + (1 : Int32)) vseen__8 vnext__9) → P253 v3_6 v4_7 vseen__8 vnext__9) → ((¬ (vh (v5_3).toNatClampNeg) = 0) → P253 v3_1 v4_2 vseen__4 vnext__5) ∧ (((vh (v5_3).toNatClampNeg) = 0) → vp_in v5_3 64 ∧ (((¬ (vseen__4 (v5_3).toNatClampNeg) = 0) → P253 v3_1 v4_2 vseen__4 vnext__5) ∧ (((vseen__4 (v5_3).toNatClampNeg) = 0) → vp_in (0 : Int32) 64 ∧ (vp_in v5_3 64 ∧ (∀ (P55 : Int32 → Int32 → (Nat → Int32) → (Nat → Int32) → Prop), (∀ (v6_10 : Int32) (v7_11 : Int32) (vseen__12 : Nat → Int32) (vnext__13 : Nat → Int32), (((v7_11 ≤ v6_10) → ∀ (P251 : Int32 → Prop), (∀ (t_14 : Int32), (P253 (v3_1 + (1 : Int32)) t_14 vseen__12 vnext__13) → P251 t_14) → ((v7_11 ≤ v4_2) → P251 v4_2) ∧ ((¬ v7_11 ≤ v4_2) → P251 v7_11)) ∧ ((¬ v7_11 ≤ v6_10) → vp_in v6_10 64 ∧ (∀ w8_15 : Int32, w8_15 = (vnext__13 (v6_10).toNatClampNeg) → ∀ (P74 : Int32 → Int32 → (Nat → Int32) → (Nat → Int32) → Prop), (∀ (v7_16 : Int32) (v9_17 : Int32) (vseen__18 : Nat → Int32) (vnext__19 : Nat → Int32), ((((4 : Int32) ≤ v9_17) → P55 (v6_10 + (1 : Int32)) v7_16 vseen__18 vnext__19) ∧ ((¬ (4 : Int32) ≤ v9_17) → ∀ (P105 : Int32 → Prop), (∀ (t_20 : Int32), (∀ w10_21 : Int32, w10_21 = ((w8_15 - w8_15 / (8 : Int32) * (8 : Int32)) + t_20) → ∀ (P134 : Int32 → Prop), (∀ (t_22 : Int32), (∀ w11_23 : Int32, w11_23 = ((w8_15 / (8 : Int32)) + t_22) → ∀ (P166 : Int32 → Prop), (∀ (t_24 : Int32), (∀ (P225 : Int32 → (Nat → Int32) → (Nat → Int32) → Prop), (∀ (v7_25 : Int32) (vseen__26 : Nat → Int32) (vnext__27 : Nat → Int32), (P74 v7_25 (v9_17 + (1 : Int32)) vseen__26 vnext__27) → P225 v7_25 vseen__26 vnext__27) → ((t_24 = 0) → P225 v7_16 vseen__18 vnext__19) ∧ ((¬ t_24 = 0) → vp_in (((8 : Int32) * w11_23) + w10_21) 64 ∧ (((¬ (vh ((((8 : Int32) * w11_23) + w10_21)).toNatClampNeg) = 0) → P225 v7_16 vseen__18 vnext__19) ∧ (((vh ((((8 : Int32) * w11_23) + w10_21)).toNatClampNeg) = 0) → vp_in (((8 : Int32) * w11_23) + w10_21) 64 ∧ (((¬ (vseen__18 ((((8 : Int32) * w11_23) + w10_21)).toNatClampNeg) = 0) → P225 v7_16 vseen__18 vnext__19) ∧ (((vseen__18 ((((8 : Int32) * w11_23) + w10_21)).toNatClampNeg) = 0) → vp_in (((8 : Int32) * w11_23) + w10_21) 64 ∧ (vp_in v7_16 64 ∧ (P225 (v7_16 + (1 : Int32)) (upd vseen__18 ((((8 : Int32) * w11_23) + w10_21)).toNatClampNeg (1 : Int32)) (upd vnext__19 (v7_16).toNatClampNeg (((8 : Int32) * w11_23) + w10_21)))))))))) → P166 t_24) → ∀ (P165 : Prop), ((P166 (0 : Int32)) → P165 ) → ((w10_21 < 0) → P165) ∧ ((¬ w10_21 < 0) → (((8 : Int32) ≤ w10_21) → P165) ∧ ((¬ (8 : Int32) ≤ w10_21) → ((w11_23 < 0) → P165) ∧ ((¬ w11_23 < 0) → (((8 : Int32) ≤ w11_23) → P165) ∧ ((¬ (8 : Int32) ≤ w11_23) → P166 (1 : Int32)))))) → P134 t_22) → ((¬ v9_17 = (2 : Int32)) → ((¬ v9_17 = (3 : Int32)) → P134 (0 : Int32)) ∧ ((v9_17 = (3 : Int32)) → P134 (-1 : Int32))) ∧ ((v9_17 = (2 : Int32)) → P134 (1 : Int32))) → P105 t_20) → ((¬ v9_17 = 0) → ((¬ v9_17 = (1 : Int32)) → P105 (0 : Int32)) ∧ ((v9_17 = (1 : Int32)) → P105 (-1 : Int32))) ∧ ((v9_17 = 0) → P105 (1 : Int32)))) → P74 v7_16 v9_17 vseen__18 vnext__19) → P74 v7_11 (0 : Int32) vseen__12 vnext__13))) → P55 v6_10 v7_11 vseen__12 vnext__13) → P55 (0 : Int32) (1 : Int32) (upd vseen__4 (v5_3).toNatClampNeg (1 : Int32)) (upd vnext__5 ((0 : Int32)).toNatClampNeg v5_3))))))))) → P18 v3_1 v4_2 v5_3 vseen__4 vnext__5) → P18 (0 : Int32) (0 : Int32) (0 : Int32) (fun _ => 0) (fun _ => 0)
def wp_L_isSame (vh : Nat → Int32) (x1 : Int32) (post : Int32 → Prop) : Prop :=
  ∀ (P2 : Int32 → Prop), (∀ (v2_1 : Int32), ((((64 : Int32) ≤ v2_1) → ((1 : Int32) = 0 ∨ (1 : Int32) = 1) ∧ (post (1 : Int32))) ∧ ((¬ (64 : Int32) ≤ v2_1) → ∀ w3_2 : Int32, w3_2 = (v2_1 - v2_1 / (8 : Int32) * (8 : Int32)) → ∀ w4_3 : Int32, w4_3 = (v2_1 / (8 : Int32)) → ∀ (P73 : Int32 → Prop), (∀ (t_4 : Int32), (vp_in v2_1 64 ∧ (vp_in t_4 64 ∧ ((((vh (v2_1).toNatClampNeg) = (vh (t_4).toNatClampNeg)) → P2 (v2_1 + (1 : Int32))) ∧ ((¬ (vh (v2_1).toNatClampNeg) = (vh (t_4).toNatClampNeg)) → ((0 : Int32) = 0 ∨ (0 : Int32) = 1) ∧ (post (0 : Int32)))))) → P73 t_4) → ((¬ x1 = 0) → ((¬ x1 = (1 : Int32)) → ((¬ x1 = (2 : Int32)) → P73 (((8 : Int32) * w3_2) + w4_3)) ∧ ((x1 = (2 : Int32)) → P73 ((63 : Int32) - v2_1))) ∧ ((x1 = (1 : Int32)) → P73 (((8 : Int32) * ((7 : Int32) - w4_3)) + w3_2))) ∧ ((x1 = 0) → P73 ((((8 : Int32) * w4_3) + (7 : Int32)) - w3_2)))) → P2 v2_1) → P2 (0 : Int32)
def wp_L_punches (vf : Nat → Int32) (vt : Nat → Int32) (post : Int32 → Prop) : Prop :=
  vp_in (6 : Int32) 7 ∧ (wp_L_wide vf (vf ((6 : Int32)).toNatClampNeg) (fun r_1 => wp_L_layers vf (fun r_2 => ∀ (P23 : Int32 → (Nat → Int32) → Prop), (∀ (v5_3 : Int32) (vwant__4 : Nat → Int32), ((((64 : Int32) ≤ v5_3) → ∀ (P72 : Int32 → Int32 → Prop), (∀ (v5_5 : Int32) (v6_6 : Int32), ((((64 : Int32) ≤ v6_6) → ((r_1 ≤ 0) → post (-1 : Int32)) ∧ ((¬ r_1 ≤ 0) → post v5_5)) ∧ ((¬ (64 : Int32) ≤ v6_6) → vp_in v6_6 64 ∧ (∀ (P98 : Prop), ((vp_in v6_6 64 ∧ (∀ (P113 : Int32 → Prop), (∀ (t_7 : Int32), (∀ w5_8 : Int32, w5_8 = (v5_5 + t_7) → P72 w5_8 (v6_6 + (1 : Int32))) → P113 t_7) → (((vwant__4 (v6_6).toNatClampNeg) ≤ 0) → P113 (0 : Int32)) ∧ ((¬ (vwant__4 (v6_6).toNatClampNeg) ≤ 0) → P113 (1 : Int32)))) → P98 ) → (((vwant__4 (v6_6).toNatClampNeg) ≤ 0) → P98) ∧ ((¬ (vwant__4 (v6_6).toNatClampNeg) ≤ 0) → vp_in v6_6 64 ∧ (((r_2 ≤ (vwant__4 (v6_6).toNatClampNeg)) → P98) ∧ ((¬ r_2 ≤ (vwant__4 (v6_6).toNatClampNeg)) → post (-1 : Int32))))))) → P72 v5_5 v6_6) → P72 (0 : Int32) (0 : Int32)) ∧ ((¬ (64 : Int32) ≤ v5_3) → wp_L_where vf v5_3 (fun r_9 => vp_in (r_9 - r_9 / (64 : Int32) * (64 : Int32)) 64 ∧ (vp_in (v5_3 / (8 : Int32)) 8 ∧ (vp_in (r_9 - r_9 / (64 : Int32) * (64 : Int32)) 64 ∧ (P23 (v5_3 + (1 : Int32)) (upd vwant__4 ((r_9 - r_9 / (64 : Int32) * (64 : Int32))).toNatClampNeg ((vwant__4 ((r_9 - r_9 / (64 : Int32) * (64 : Int32))).toNatClampNeg) + (((vt ((v5_3 / (8 : Int32))).toNatClampNeg) >>> ((v5_3 - v5_3 / (8 : Int32) * (8 : Int32)) &&& (31 : Int32))) &&& (1 : Int32)))))))))) → P23 v5_3 vwant__4) → P23 (0 : Int32) (fun _ => 0))))
set_option maxRecDepth 20000 in
theorem kwL_pieces_arrint : Cond.arrayClass .int ∈ wsL_pieces := by decide +kernel
set_option maxHeartbeats 4000000 in
set_option maxRecDepth 100000 in
theorem c_L_pieces (l : Launch) (dC : Nat → ClassId) (dI : Nat → Nat → Nat) (cI cC cS : ClassId) (lh : Nat) (sz : Nat) (vh : Nat → Int32) {post : Int32 → Prop} (hq : wp_L_pieces vh post) : Met l yL_pieces wsL_pieces ({ frames := 0, cells := 2, slots := 128, locals := 0 } : Room) (gn_Pre (dC, dI) cI cC cS [.ref lh] sz [(lh, .inl (cI, 64, .inl vh))]) (va_Qi (fun (r : Int32) (u : Unit) => post r) (fun (u : Unit) t => va_P (dC, dI) vwCl [(lh, .inl (cI, 64, .inl vh))] t.heap ∧ va_K (dC, dI) vwCl (gn_tys cI cC cS) t ∧ va_D (va_A [(lh, .inl (cI, 64, .inl vh))] sz) [(lh, .inl (cI, 64, .inl vh))]) (va_A [(lh, .inl (cI, 64, .inl vh))] sz)) 2 128 (va_A [(lh, .inl (cI, 64, .inl vh))] sz) := by
  unfold wp_L_pieces at hq
  refine Met.ofW (cc := cL_pieces) (maxL := 13) (ret := (some .int)) (by decide) rfl ?_
  intro p e s m args below meth c s₁ B hml hv
  obtain ⟨rfl, hsz, hP, hK, hN, hD0⟩ := hv
  have hx := B.exec
  have hb := B.bytes
  have hr := B.returns
  have hts := atoms_spec (ws := wsL_pieces) B.pre
  have hown : s.vm.findClass RL = some m.cls := findClass_of_methodNamed B.named
  have hlocks := B.notSynchronized
  subst hsz
  have hD := hD0.self (sz := s.heap.size)
  generalize hAe : va_A [(lh, .inl (cI, 64, .inl vh))] s.heap.size = A at hD ⊢
  have hA : ∀ q : Nat, s.heap.size ≤ q → A q := fun q h => by rw [← hAe]; exact Or.inr h
  have hS : va_S A s.heap s.heap [] := va_S.rf
  have hl := lv_entry ([.ref lh] : List Value) (n := 13) (Nat.le_of_ble_eq_true rfl)
  rw [lg_entry_eq]
  generalize (lg_sl ([.ref lh] : List Value) ++ List.replicate (13 - (lg_sl ([.ref lh] : List Value)).length) Slot.unset).toArray = ls at hl ⊢
  have hl : lv_has ls 13 [(0, .ref lh)] := hl
  refine gn_Q (hret := fun Q => ∀ (pc : Nat) (ls : Array Slot) (H : Heap) (locs : List Loc) (r : Int32) , decode cL_pieces pc = .ok (.ireturn, 1) → va_P (dC, dI) vwCl [(lh, .inl (cI, 64, .inl vh))] H → va_D A [(lh, .inl (cI, 64, .inl vh))] → va_S A s.heap H locs → post r → W p l e ({ frames := 0, cells := 2, slots := 128, locals := 0 } : Room) s m ([.ref lh] : List Value).toArray below meth c H locs 2 128 Q (F0 m pc ls [.int r])) (fun Q hret => ?_) ?_
  rotate_left
  · intro pc ls H locs r hdg hP hD hS hpost
    exact W.iret (v := r) hx hb hr (fun t ht hW => ⟨⟨r, (), rfl, hpost, by rw [ht]; exact hP, va_K.moved hW.alike hK, hD⟩, hS.F ht⟩) hS.2.2 hdg
  refine lv_bipush (v := 64) hx hb dL_pieces_0 (by decide) ?_
  refine gn_newI hx hb (hts _ kwL_pieces_arrint) hK hP hD hS hA (N' := 64) (by decide) (by decide) (Nat.le_of_ble_eq_true rfl) (Nat.le_of_ble_eq_true rfl) (Nat.le_of_ble_eq_true rfl) dL_pieces_2 (fun lseen H hP hD hS => ?_)
  have hP : va_P (dC, dI) vwCl [(lh, .inl (cI, 64, .inl vh)), (lseen, .inl (cI, 64, .inl (fun _ => 0)))] H := hP
  have hD : va_D A [(lh, .inl (cI, 64, .inl vh)), (lseen, .inl (cI, 64, .inl (fun _ => 0)))] := hD
  refine W.widen (k := 1) (n := 64) (by omega) (by omega) ?_
  refine lv_astore_n (lv' := [(1, .ref lseen), (0, .ref lh)]) hx hb dL_pieces_4 rfl hl (by decide) rfl (fun ls hl => ?_)
  refine lv_bipush (v := 64) hx hb dL_pieces_5 (by decide) ?_
  refine gn_newI hx hb (hts _ kwL_pieces_arrint) hK hP hD hS hA (N' := 64) (by decide) (by decide) (Nat.le_of_ble_eq_true rfl) (Nat.le_of_ble_eq_true rfl) (Nat.le_of_ble_eq_true rfl) dL_pieces_7 (fun lnext H hP hD hS => ?_)
  have hP : va_P (dC, dI) vwCl [(lh, .inl (cI, 64, .inl vh)), (lseen, .inl (cI, 64, .inl (fun _ => 0))), (lnext, .inl (cI, 64, .inl (fun _ => 0)))] H := hP
  have hD : va_D A [(lh, .inl (cI, 64, .inl vh)), (lseen, .inl (cI, 64, .inl (fun _ => 0))), (lnext, .inl (cI, 64, .inl (fun _ => 0)))] := hD
  refine W.widen (k := 2) (n := 128) (by omega) (by omega) ?_
  refine lv_astore_n (lv' := [(2, .ref lnext), (1, .ref lseen), (0, .ref lh)]) hx hb dL_pieces_9 rfl hl (by decide) rfl (fun ls hl => ?_)
  refine lv_iconst (v := 0) hx hb dL_pieces_10 (by decide) ?_
  refine lv_istore_n (lv' := [(3, .int (0 : Int32)), (2, .ref lnext), (1, .ref lseen), (0, .ref lh)]) hx hb dL_pieces_11 rfl hl (by decide) rfl (fun ls hl => ?_)
  refine lv_iconst (v := 0) hx hb dL_pieces_12 (by decide) ?_
  refine lv_istore (lv' := [(4, .int (0 : Int32)), (3, .int (0 : Int32)), (2, .ref lnext), (1, .ref lseen), (0, .ref lh)]) hx hb dL_pieces_13 hl (by decide) rfl (fun ls hl => ?_)
  refine lv_iconst (v := 0) hx hb dL_pieces_15 (by decide) ?_
  refine lv_istore (lv' := [(5, .int (0 : Int32)), (4, .int (0 : Int32)), (3, .int (0 : Int32)), (2, .ref lnext), (1, .ref lseen), (0, .ref lh)]) hx hb dL_pieces_16 hl (by decide) rfl (fun ls hl => ?_)
  have hq := hq (fun (v3_1 : Int32) (v4_2 : Int32) (v5_3 : Int32) (vseen__4 : Nat → Int32) (vnext__5 : Nat → Int32) => ∀ (H : Heap) (locs : List Loc) (ls : Array Slot), va_P (dC, dI) vwCl [(lh, .inl (cI, 64, .inl vh)), (lseen, .inl (cI, 64, .inl vseen__4)), (lnext, .inl (cI, 64, .inl vnext__5))] H → va_D A [(lh, .inl (cI, 64, .inl vh)), (lseen, .inl (cI, 64, .inl vseen__4)), (lnext, .inl (cI, 64, .inl vnext__5))] → va_S A s.heap H locs → lv_has ls 13 [(0, .ref lh), (1, .ref lseen), (2, .ref lnext), (3, .int v3_1), (4, .int v4_2), (5, .int v5_3)] → W p l e ({ frames := 0, cells := 2, slots := 128, locals := 0 } : Room) s m ([.ref lh] : List Value).toArray below meth c H locs 2 128 Q (F0 m 18 ls [])) (by
    intro v3_1 v4_2 v5_3 vseen__4 vnext__5 hq H locs ls hP hD hS hl
    refine lv_iload hx hb dL_pieces_18 (lv_at hl 5 rfl) ?_
    refine lv_bipush (v := 64) hx hb dL_pieces_20 (by decide) ?_
    refine lv_icmp_ge (tgt := 259) hx hb dL_pieces_22 (by decide) (fun hc => ?_) (fun hc => ?_)
    · have hq := hq.1 hc
      refine lv_iload_n hx hb dL_pieces_259 rfl (lv_at hl 3 rfl) ?_
      refine lv_bipush (v := 100) hx hb dL_pieces_260 (by decide) ?_
      refine lv_iload hx hb dL_pieces_262 (lv_at hl 4 rfl) ?_
      refine lv_imul hx hb dL_pieces_264 ?_
      refine lv_iadd hx hb dL_pieces_265 ?_
      have hP := hP.sub (ws' := [(lh, .inl (cI, 64, .inl vh))]) [0] rfl
      have hD := hD.sub (ws' := [(lh, .inl (cI, 64, .inl vh))]) [0] (by decide) rfl
      exact hret _ _ _ _ _ dL_pieces_266 hP hD hS hq
    · have hq := hq.2 hc
      refine lv_aload_n hx hb dL_pieces_25 rfl (lv_at hl 0 rfl) ?_
      refine lv_iload hx hb dL_pieces_26 (lv_at hl 5 rfl) ?_
      have hin := hq.1
      have hq := hq.2
      refine va_iald hx hb hK hP 0 0 rfl rfl hin dL_pieces_28 ?_
      have hq := hq (fun (v3_6 : Int32) (v4_7 : Int32) (vseen__8 : Nat → Int32) (vnext__9 : Nat → Int32) => ∀ (H : Heap) (locs : List Loc) (ls : Array Slot), va_P (dC, dI) vwCl [(lh, .inl (cI, 64, .inl vh)), (lseen, .inl (cI, 64, .inl vseen__8)), (lnext, .inl (cI, 64, .inl vnext__9))] H → va_D A [(lh, .inl (cI, 64, .inl vh)), (lseen, .inl (cI, 64, .inl vseen__8)), (lnext, .inl (cI, 64, .inl vnext__9))] → va_S A s.heap H locs → lv_has ls 13 [(0, .ref lh), (1, .ref lseen), (2, .ref lnext), (3, .int v3_6), (4, .int v4_7), (5, .int v5_3)] → W p l e ({ frames := 0, cells := 2, slots := 128, locals := 0 } : Room) s m ([.ref lh] : List Value).toArray below meth c H locs 2 128 Q (F0 m 253 ls [])) (by
        intro v3_6 v4_7 vseen__8 vnext__9 hq H locs ls hP hD hS hl
        refine lv_iinc (v := (v5_3 + (1 : Int32))) (lv' := [(5, .int (v5_3 + (1 : Int32))), (0, .ref lh), (1, .ref lseen), (2, .ref lnext), (3, .int v3_6), (4, .int v4_7)]) hx hb dL_pieces_253 hl (k := 5) rfl rfl (by decide) rfl (fun ls hl => ?_)
        refine lv_goto (tgt := 18) hx hb dL_pieces_256 (by decide) ?_
        exact hq _ _ _ hP hD hS (lv_sub hl [1, 2, 3, 4, 5, 0] rfl))
      refine lv_if_ne (tgt := 253) hx hb dL_pieces_29 (by decide) (fun hc => ?_) (fun hc => ?_)
      · have hq := hq.1 hc
        exact hq _ _ _ hP hD hS (lv_sub hl [0, 1, 2, 3, 4, 5] rfl)
      · have hq := hq.2 hc
        refine lv_aload_n hx hb dL_pieces_32 rfl (lv_at hl 1 rfl) ?_
        refine lv_iload hx hb dL_pieces_33 (lv_at hl 5 rfl) ?_
        have hin := hq.1
        have hq := hq.2
        refine va_iald hx hb hK hP 1 0 rfl rfl hin dL_pieces_35 ?_
        refine lv_if_ne (tgt := 253) hx hb dL_pieces_36 (by decide) (fun hc => ?_) (fun hc => ?_)
        · have hq := hq.1 hc
          exact hq _ _ _ hP hD hS (lv_sub hl [0, 1, 2, 3, 4, 5] rfl)
        · have hq := hq.2 hc
          refine lv_iconst (v := 0) hx hb dL_pieces_39 (by decide) ?_
          refine lv_istore (lv' := [(6, .int (0 : Int32)), (0, .ref lh), (1, .ref lseen), (2, .ref lnext), (3, .int v3_1), (4, .int v4_2), (5, .int v5_3)]) hx hb dL_pieces_40 hl (by decide) rfl (fun ls hl => ?_)
          refine lv_iconst (v := 1) hx hb dL_pieces_42 (by decide) ?_
          refine lv_istore (lv' := [(7, .int (1 : Int32)), (6, .int (0 : Int32)), (0, .ref lh), (1, .ref lseen), (2, .ref lnext), (3, .int v3_1), (4, .int v4_2), (5, .int v5_3)]) hx hb dL_pieces_43 hl (by decide) rfl (fun ls hl => ?_)
          refine lv_aload_n hx hb dL_pieces_45 rfl (lv_at hl 4 rfl) ?_
          refine lv_iconst (v := 0) hx hb dL_pieces_46 (by decide) ?_
          refine lv_iload hx hb dL_pieces_47 (lv_at hl 7 rfl) ?_
          have hin := hq.1
          have hq := hq.2
          refine va_iast hx hb hK hP hD hS 2 0 rfl rfl hin dL_pieces_49 (fun H locs hP hD hS => ?_)
          have hP : va_P (dC, dI) vwCl [(lh, .inl (cI, 64, .inl vh)), (lseen, .inl (cI, 64, .inl vseen__4)), (lnext, .inl (cI, 64, .inl (upd vnext__5 ((0 : Int32)).toNatClampNeg v5_3)))] H := hP
          have hD : va_D A [(lh, .inl (cI, 64, .inl vh)), (lseen, .inl (cI, 64, .inl vseen__4)), (lnext, .inl (cI, 64, .inl (upd vnext__5 ((0 : Int32)).toNatClampNeg v5_3)))] := hD
          refine lv_aload_n hx hb dL_pieces_50 rfl (lv_at hl 3 rfl) ?_
          refine lv_iload hx hb dL_pieces_51 (lv_at hl 7 rfl) ?_
          refine lv_iconst (v := 1) hx hb dL_pieces_53 (by decide) ?_
          have hin := hq.1
          have hq := hq.2
          refine va_iast hx hb hK hP hD hS 1 0 rfl rfl hin dL_pieces_54 (fun H locs hP hD hS => ?_)
          have hP : va_P (dC, dI) vwCl [(lh, .inl (cI, 64, .inl vh)), (lseen, .inl (cI, 64, .inl (upd vseen__4 (v5_3).toNatClampNeg (1 : Int32)))), (lnext, .inl (cI, 64, .inl (upd vnext__5 ((0 : Int32)).toNatClampNeg v5_3)))] H := hP
          have hD : va_D A [(lh, .inl (cI, 64, .inl vh)), (lseen, .inl (cI, 64, .inl (upd vseen__4 (v5_3).toNatClampNeg (1 : Int32)))), (lnext, .inl (cI, 64, .inl (upd vnext__5 ((0 : Int32)).toNatClampNeg v5_3)))] := hD
          have hq := hq (fun (v6_10 : Int32) (v7_11 : Int32) (vseen__12 : Nat → Int32) (vnext__13 : Nat → Int32) => ∀ (H : Heap) (locs : List Loc) (ls : Array Slot), va_P (dC, dI) vwCl [(lh, .inl (cI, 64, .inl vh)), (lseen, .inl (cI, 64, .inl vseen__12)), (lnext, .inl (cI, 64, .inl vnext__13))] H → va_D A [(lh, .inl (cI, 64, .inl vh)), (lseen, .inl (cI, 64, .inl vseen__12)), (lnext, .inl (cI, 64, .inl vnext__13))] → va_S A s.heap H locs → lv_has ls 13 [(0, .ref lh), (1, .ref lseen), (2, .ref lnext), (3, .int v3_1), (4, .int v4_2), (5, .int v5_3), (6, .int v6_10), (7, .int v7_11)] → W p l e ({ frames := 0, cells := 2, slots := 128, locals := 0 } : Room) s m ([.ref lh] : List Value).toArray below meth c H locs 2 128 Q (F0 m 55 ls [])) (by
            intro v6_10 v7_11 vseen__12 vnext__13 hq H locs ls hP hD hS hl
            refine lv_iload hx hb dL_pieces_55 (lv_at hl 6 rfl) ?_
            refine lv_iload hx hb dL_pieces_57 (lv_at hl 7 rfl) ?_
            refine lv_icmp_ge (tgt := 234) hx hb dL_pieces_59 (by decide) (fun hc => ?_) (fun hc => ?_)
            · have hq := hq.1 hc
              refine lv_iinc (v := (v3_1 + (1 : Int32))) (lv' := [(3, .int (v3_1 + (1 : Int32))), (0, .ref lh), (1, .ref lseen), (2, .ref lnext), (4, .int v4_2), (5, .int v5_3), (6, .int v6_10), (7, .int v7_11)]) hx hb dL_pieces_234 hl (k := 3) rfl rfl (by decide) rfl (fun ls hl => ?_)
              refine lv_iload hx hb dL_pieces_237 (lv_at hl 7 rfl) ?_
              refine lv_iload hx hb dL_pieces_239 (lv_at hl 4 rfl) ?_
              have hq := hq (fun (t_14 : Int32) => ∀ (H : Heap) (locs : List Loc) (ls : Array Slot), va_P (dC, dI) vwCl [(lh, .inl (cI, 64, .inl vh)), (lseen, .inl (cI, 64, .inl vseen__12)), (lnext, .inl (cI, 64, .inl vnext__13))] H → va_D A [(lh, .inl (cI, 64, .inl vh)), (lseen, .inl (cI, 64, .inl vseen__12)), (lnext, .inl (cI, 64, .inl vnext__13))] → va_S A s.heap H locs → lv_has ls 13 [(0, .ref lh), (1, .ref lseen), (2, .ref lnext), (3, .int (v3_1 + (1 : Int32))), (5, .int v5_3)] → W p l e ({ frames := 0, cells := 2, slots := 128, locals := 0 } : Room) s m ([.ref lh] : List Value).toArray below meth c H locs 2 128 Q (F0 m 251 ls [.int t_14])) (by
                intro t_14 hq H locs ls hP hD hS hl
                refine lv_istore (lv' := [(4, .int t_14), (0, .ref lh), (1, .ref lseen), (2, .ref lnext), (3, .int (v3_1 + (1 : Int32))), (5, .int v5_3)]) hx hb dL_pieces_251 hl (by decide) rfl (fun ls hl => ?_)
                exact hq _ _ _ hP hD hS (lv_sub hl [1, 2, 3, 4, 0, 5] rfl))
              refine lv_icmp_le (tgt := 249) hx hb dL_pieces_241 (by decide) (fun hc => ?_) (fun hc => ?_)
              · have hq := hq.1 hc
                refine lv_iload hx hb dL_pieces_249 (lv_at hl 4 rfl) ?_
                exact hq _ _ _ hP hD hS (lv_sub hl [1, 2, 3, 0, 5] rfl)
              · have hq := hq.2 hc
                refine lv_iload hx hb dL_pieces_244 (lv_at hl 7 rfl) ?_
                refine lv_goto (tgt := 251) hx hb dL_pieces_246 (by decide) ?_
                exact hq _ _ _ hP hD hS (lv_sub hl [1, 2, 3, 0, 5] rfl)
            · have hq := hq.2 hc
              refine lv_aload_n hx hb dL_pieces_62 rfl (lv_at hl 2 rfl) ?_
              refine lv_iload hx hb dL_pieces_63 (lv_at hl 6 rfl) ?_
              have hin := hq.1
              have hq := hq.2
              refine va_iald hx hb hK hP 2 0 rfl rfl hin dL_pieces_65 ?_
              refine lv_topi (fun w8_15 ew8_15 => ?_)
              have hq := hq w8_15 ew8_15
              refine lv_istore (lv' := [(8, .int w8_15), (0, .ref lh), (1, .ref lseen), (2, .ref lnext), (3, .int v3_1), (4, .int v4_2), (5, .int v5_3), (6, .int v6_10), (7, .int v7_11)]) hx hb dL_pieces_66 hl (by decide) rfl (fun ls hl => ?_)
              refine lv_iinc (v := (v6_10 + (1 : Int32))) (lv' := [(6, .int (v6_10 + (1 : Int32))), (8, .int w8_15), (0, .ref lh), (1, .ref lseen), (2, .ref lnext), (3, .int v3_1), (4, .int v4_2), (5, .int v5_3), (7, .int v7_11)]) hx hb dL_pieces_68 hl (k := 7) rfl rfl (by decide) rfl (fun ls hl => ?_)
              refine lv_iconst (v := 0) hx hb dL_pieces_71 (by decide) ?_
              refine lv_istore (lv' := [(9, .int (0 : Int32)), (6, .int (v6_10 + (1 : Int32))), (8, .int w8_15), (0, .ref lh), (1, .ref lseen), (2, .ref lnext), (3, .int v3_1), (4, .int v4_2), (5, .int v5_3), (7, .int v7_11)]) hx hb dL_pieces_72 hl (by decide) rfl (fun ls hl => ?_)
              have hq := hq (fun (v7_16 : Int32) (v9_17 : Int32) (vseen__18 : Nat → Int32) (vnext__19 : Nat → Int32) => ∀ (H : Heap) (locs : List Loc) (ls : Array Slot), va_P (dC, dI) vwCl [(lh, .inl (cI, 64, .inl vh)), (lseen, .inl (cI, 64, .inl vseen__18)), (lnext, .inl (cI, 64, .inl vnext__19))] H → va_D A [(lh, .inl (cI, 64, .inl vh)), (lseen, .inl (cI, 64, .inl vseen__18)), (lnext, .inl (cI, 64, .inl vnext__19))] → va_S A s.heap H locs → lv_has ls 13 [(0, .ref lh), (1, .ref lseen), (2, .ref lnext), (3, .int v3_1), (4, .int v4_2), (5, .int v5_3), (6, .int (v6_10 + (1 : Int32))), (7, .int v7_16), (8, .int w8_15), (9, .int v9_17)] → W p l e ({ frames := 0, cells := 2, slots := 128, locals := 0 } : Room) s m ([.ref lh] : List Value).toArray below meth c H locs 2 128 Q (F0 m 74 ls [])) (by
                intro v7_16 v9_17 vseen__18 vnext__19 hq H locs ls hP hD hS hl
                refine lv_iload hx hb dL_pieces_74 (lv_at hl 9 rfl) ?_
                refine lv_iconst (v := 4) hx hb dL_pieces_76 (by decide) ?_
                refine lv_icmp_ge (tgt := 231) hx hb dL_pieces_77 (by decide) (fun hc => ?_) (fun hc => ?_)
                · have hq := hq.1 hc
                  refine lv_goto (tgt := 55) hx hb dL_pieces_231 (by decide) ?_
                  exact hq _ _ _ hP hD hS (lv_sub hl [0, 1, 2, 3, 4, 5, 6, 7] rfl)
                · have hq := hq.2 hc
                  refine lv_iload hx hb dL_pieces_80 (lv_at hl 8 rfl) ?_
                  refine lv_bipush (v := 8) hx hb dL_pieces_82 (by decide) ?_
                  refine lv_irem hx hb dL_pieces_84 (by decide) ?_
                  refine lv_iload hx hb dL_pieces_85 (lv_at hl 9 rfl) ?_
                  have hq := hq (fun (t_20 : Int32) => ∀ (H : Heap) (locs : List Loc) (ls : Array Slot), va_P (dC, dI) vwCl [(lh, .inl (cI, 64, .inl vh)), (lseen, .inl (cI, 64, .inl vseen__18)), (lnext, .inl (cI, 64, .inl vnext__19))] H → va_D A [(lh, .inl (cI, 64, .inl vh)), (lseen, .inl (cI, 64, .inl vseen__18)), (lnext, .inl (cI, 64, .inl vnext__19))] → va_S A s.heap H locs → lv_has ls 13 [(0, .ref lh), (1, .ref lseen), (2, .ref lnext), (3, .int v3_1), (4, .int v4_2), (5, .int v5_3), (6, .int (v6_10 + (1 : Int32))), (7, .int v7_16), (8, .int w8_15), (9, .int v9_17)] → W p l e ({ frames := 0, cells := 2, slots := 128, locals := 0 } : Room) s m ([.ref lh] : List Value).toArray below meth c H locs 2 128 Q (F0 m 105 ls [.int t_20, .int (w8_15 - w8_15 / (8 : Int32) * (8 : Int32))])) (by
                    intro t_20 hq H locs ls hP hD hS hl
                    refine lv_iadd hx hb dL_pieces_105 ?_
                    refine lv_topi (fun w10_21 ew10_21 => ?_)
                    have hq := hq w10_21 ew10_21
                    refine lv_istore (lv' := [(10, .int w10_21), (0, .ref lh), (1, .ref lseen), (2, .ref lnext), (3, .int v3_1), (4, .int v4_2), (5, .int v5_3), (6, .int (v6_10 + (1 : Int32))), (7, .int v7_16), (8, .int w8_15), (9, .int v9_17)]) hx hb dL_pieces_106 hl (by decide) rfl (fun ls hl => ?_)
                    refine lv_iload hx hb dL_pieces_108 (lv_at hl 9 rfl) ?_
                    refine lv_bipush (v := 8) hx hb dL_pieces_110 (by decide) ?_
                    refine lv_idiv hx hb dL_pieces_112 (by decide) ?_
                    refine lv_iload hx hb dL_pieces_113 (lv_at hl 10 rfl) ?_
                    refine lv_iconst (v := 2) hx hb dL_pieces_115 (by decide) ?_
                    have hq := hq (fun (t_22 : Int32) => ∀ (H : Heap) (locs : List Loc) (ls : Array Slot), va_P (dC, dI) vwCl [(lh, .inl (cI, 64, .inl vh)), (lseen, .inl (cI, 64, .inl vseen__18)), (lnext, .inl (cI, 64, .inl vnext__19))] H → va_D A [(lh, .inl (cI, 64, .inl vh)), (lseen, .inl (cI, 64, .inl vseen__18)), (lnext, .inl (cI, 64, .inl vnext__19))] → va_S A s.heap H locs → lv_has ls 13 [(0, .ref lh), (1, .ref lseen), (2, .ref lnext), (3, .int v3_1), (4, .int v4_2), (5, .int v5_3), (6, .int (v6_10 + (1 : Int32))), (7, .int v7_16), (8, .int w8_15), (9, .int v9_17), (10, .int w10_21)] → W p l e ({ frames := 0, cells := 2, slots := 128, locals := 0 } : Room) s m ([.ref lh] : List Value).toArray below meth c H locs 2 128 Q (F0 m 134 ls [.int t_22, .int (w8_15 / (8 : Int32))])) (by
                      intro t_22 hq H locs ls hP hD hS hl
                      refine lv_iadd hx hb dL_pieces_134 ?_
                      refine lv_topi (fun w11_23 ew11_23 => ?_)
                      have hq := hq w11_23 ew11_23
                      refine lv_istore (lv' := [(11, .int w11_23), (0, .ref lh), (1, .ref lseen), (2, .ref lnext), (3, .int v3_1), (4, .int v4_2), (5, .int v5_3), (6, .int (v6_10 + (1 : Int32))), (7, .int v7_16), (8, .int w8_15), (9, .int v9_17), (10, .int w10_21)]) hx hb dL_pieces_135 hl (by decide) rfl (fun ls hl => ?_)
                      refine lv_iload hx hb dL_pieces_137 (lv_at hl 11 rfl) ?_
                      have hq := hq (fun (t_24 : Int32) => ∀ (H : Heap) (locs : List Loc) (ls : Array Slot), va_P (dC, dI) vwCl [(lh, .inl (cI, 64, .inl vh)), (lseen, .inl (cI, 64, .inl vseen__18)), (lnext, .inl (cI, 64, .inl vnext__19))] H → va_D A [(lh, .inl (cI, 64, .inl vh)), (lseen, .inl (cI, 64, .inl vseen__18)), (lnext, .inl (cI, 64, .inl vnext__19))] → va_S A s.heap H locs → lv_has ls 13 [(0, .ref lh), (1, .ref lseen), (2, .ref lnext), (3, .int v3_1), (4, .int v4_2), (5, .int v5_3), (6, .int (v6_10 + (1 : Int32))), (7, .int v7_16), (8, .int w8_15), (9, .int v9_17), (10, .int w10_21), (11, .int w11_23)] → W p l e ({ frames := 0, cells := 2, slots := 128, locals := 0 } : Room) s m ([.ref lh] : List Value).toArray below meth c H locs 2 128 Q (F0 m 166 ls [.int t_24])) (by
                        intro t_24 hq H locs ls hP hD hS hl
                        refine lv_istore (lv' := [(12, .int t_24), (0, .ref lh), (1, .ref lseen), (2, .ref lnext), (3, .int v3_1), (4, .int v4_2), (5, .int v5_3), (6, .int (v6_10 + (1 : Int32))), (7, .int v7_16), (8, .int w8_15), (9, .int v9_17), (10, .int w10_21), (11, .int w11_23)]) hx hb dL_pieces_166 hl (by decide) rfl (fun ls hl => ?_)
                        refine lv_iload hx hb dL_pieces_168 (lv_at hl 0 rfl) ?_
                        have hq := hq (fun (v7_25 : Int32) (vseen__26 : Nat → Int32) (vnext__27 : Nat → Int32) => ∀ (H : Heap) (locs : List Loc) (ls : Array Slot), va_P (dC, dI) vwCl [(lh, .inl (cI, 64, .inl vh)), (lseen, .inl (cI, 64, .inl vseen__26)), (lnext, .inl (cI, 64, .inl vnext__27))] H → va_D A [(lh, .inl (cI, 64, .inl vh)), (lseen, .inl (cI, 64, .inl vseen__26)), (lnext, .inl (cI, 64, .inl vnext__27))] → va_S A s.heap H locs → lv_has ls 13 [(0, .ref lh), (1, .ref lseen), (2, .ref lnext), (3, .int v3_1), (4, .int v4_2), (5, .int v5_3), (6, .int (v6_10 + (1 : Int32))), (7, .int v7_25), (8, .int w8_15), (9, .int v9_17)] → W p l e ({ frames := 0, cells := 2, slots := 128, locals := 0 } : Room) s m ([.ref lh] : List Value).toArray below meth c H locs 2 128 Q (F0 m 225 ls [])) (by
                          intro v7_25 vseen__26 vnext__27 hq H locs ls hP hD hS hl
                          refine lv_iinc (v := (v9_17 + (1 : Int32))) (lv' := [(9, .int (v9_17 + (1 : Int32))), (0, .ref lh), (1, .ref lseen), (2, .ref lnext), (3, .int v3_1), (4, .int v4_2), (5, .int v5_3), (6, .int (v6_10 + (1 : Int32))), (7, .int v7_25), (8, .int w8_15)]) hx hb dL_pieces_225 hl (k := 9) rfl rfl (by decide) rfl (fun ls hl => ?_)
                          refine lv_goto (tgt := 74) hx hb dL_pieces_228 (by decide) ?_
                          exact hq _ _ _ hP hD hS (lv_sub hl [1, 2, 3, 4, 5, 6, 7, 8, 9, 0] rfl))
                        refine lv_if_eq (tgt := 225) hx hb dL_pieces_170 (by decide) (fun hc => ?_) (fun hc => ?_)
                        · have hq := hq.1 hc
                          exact hq _ _ _ hP hD hS (lv_sub hl [1, 2, 3, 4, 5, 6, 7, 8, 9, 10] rfl)
                        · have hq := hq.2 hc
                          refine lv_aload_n hx hb dL_pieces_173 rfl (lv_at hl 1 rfl) ?_
                          refine lv_bipush (v := 8) hx hb dL_pieces_174 (by decide) ?_
                          refine lv_iload hx hb dL_pieces_176 (lv_at hl 12 rfl) ?_
                          refine lv_imul hx hb dL_pieces_178 ?_
                          refine lv_iload hx hb dL_pieces_179 (lv_at hl 11 rfl) ?_
                          refine lv_iadd hx hb dL_pieces_181 ?_
                          have hin := hq.1
                          have hq := hq.2
                          refine va_iald hx hb hK hP 0 0 rfl rfl hin dL_pieces_182 ?_
                          refine lv_if_ne (tgt := 225) hx hb dL_pieces_183 (by decide) (fun hc => ?_) (fun hc => ?_)
                          · have hq := hq.1 hc
                            exact hq _ _ _ hP hD hS (lv_sub hl [1, 2, 3, 4, 5, 6, 7, 8, 9, 10] rfl)
                          · have hq := hq.2 hc
                            refine lv_aload_n hx hb dL_pieces_186 rfl (lv_at hl 2 rfl) ?_
                            refine lv_bipush (v := 8) hx hb dL_pieces_187 (by decide) ?_
                            refine lv_iload hx hb dL_pieces_189 (lv_at hl 12 rfl) ?_
                            refine lv_imul hx hb dL_pieces_191 ?_
                            refine lv_iload hx hb dL_pieces_192 (lv_at hl 11 rfl) ?_
                            refine lv_iadd hx hb dL_pieces_194 ?_
                            have hin := hq.1
                            have hq := hq.2
                            refine va_iald hx hb hK hP 1 0 rfl rfl hin dL_pieces_195 ?_
                            refine lv_if_ne (tgt := 225) hx hb dL_pieces_196 (by decide) (fun hc => ?_) (fun hc => ?_)
                            · have hq := hq.1 hc
                              exact hq _ _ _ hP hD hS (lv_sub hl [1, 2, 3, 4, 5, 6, 7, 8, 9, 10] rfl)
                            · have hq := hq.2 hc
                              refine lv_aload_n hx hb dL_pieces_199 rfl (lv_at hl 2 rfl) ?_
                              refine lv_bipush (v := 8) hx hb dL_pieces_200 (by decide) ?_
                              refine lv_iload hx hb dL_pieces_202 (lv_at hl 12 rfl) ?_
                              refine lv_imul hx hb dL_pieces_204 ?_
                              refine lv_iload hx hb dL_pieces_205 (lv_at hl 11 rfl) ?_
                              refine lv_iadd hx hb dL_pieces_207 ?_
                              refine lv_iconst (v := 1) hx hb dL_pieces_208 (by decide) ?_
                              have hin := hq.1
                              have hq := hq.2
                              refine va_iast hx hb hK hP hD hS 1 0 rfl rfl hin dL_pieces_209 (fun H locs hP hD hS => ?_)
                              have hP : va_P (dC, dI) vwCl [(lh, .inl (cI, 64, .inl vh)), (lseen, .inl (cI, 64, .inl (upd vseen__18 ((((8 : Int32) * w11_23) + w10_21)).toNatClampNeg (1 : Int32)))), (lnext, .inl (cI, 64, .inl vnext__19))] H := hP
                              have hD : va_D A [(lh, .inl (cI, 64, .inl vh)), (lseen, .inl (cI, 64, .inl (upd vseen__18 ((((8 : Int32) * w11_23) + w10_21)).toNatClampNeg (1 : Int32)))), (lnext, .inl (cI, 64, .inl vnext__19))] := hD
                              refine lv_aload_n hx hb dL_pieces_210 rfl (lv_at hl 3 rfl) ?_
                              refine lv_iload hx hb dL_pieces_211 (lv_at hl 8 rfl) ?_
                              refine lv_bipush (v := 8) hx hb dL_pieces_213 (by decide) ?_
                              refine lv_iload hx hb dL_pieces_215 (lv_at hl 12 rfl) ?_
                              refine lv_imul hx hb dL_pieces_217 ?_
                              refine lv_iload hx hb dL_pieces_218 (lv_at hl 11 rfl) ?_
                              refine lv_iadd hx hb dL_pieces_220 ?_
                              have hin := hq.1
                              have hq := hq.2
                              refine va_iast hx hb hK hP hD hS 2 0 rfl rfl hin dL_pieces_221 (fun H locs hP hD hS => ?_)
                              have hP : va_P (dC, dI) vwCl [(lh, .inl (cI, 64, .inl vh)), (lseen, .inl (cI, 64, .inl (upd vseen__18 ((((8 : Int32) * w11_23) + w10_21)).toNatClampNeg (1 : Int32)))), (lnext, .inl (cI, 64, .inl (upd vnext__19 (v7_16).toNatClampNeg (((8 : Int32) * w11_23) + w10_21))))] H := hP
                              have hD : va_D A [(lh, .inl (cI, 64, .inl vh)), (lseen, .inl (cI, 64, .inl (upd vseen__18 ((((8 : Int32) * w11_23) + w10_21)).toNatClampNeg (1 : Int32)))), (lnext, .inl (cI, 64, .inl (upd vnext__19 (v7_16).toNatClampNeg (((8 : Int32) * w11_23) + w10_21))))] := hD
                              refine lv_iinc (v := (v7_16 + (1 : Int32))) (lv' := [(7, .int (v7_16 + (1 : Int32))), (12, .int t_24), (0, .ref lh), (1, .ref lseen), (2, .ref lnext), (3, .int v3_1), (4, .int v4_2), (5, .int v5_3), (6, .int (v6_10 + (1 : Int32))), (8, .int w8_15), (9, .int v9_17), (10, .int w10_21), (11, .int w11_23)]) hx hb dL_pieces_222 hl (k := 8) rfl rfl (by decide) rfl (fun ls hl => ?_)
                              exact hq _ _ _ hP hD hS (lv_sub hl [2, 3, 4, 5, 6, 7, 8, 0, 9, 10] rfl))
                      have hq := hq (∀ (H : Heap) (locs : List Loc) (ls : Array Slot), va_P (dC, dI) vwCl [(lh, .inl (cI, 64, .inl vh)), (lseen, .inl (cI, 64, .inl vseen__18)), (lnext, .inl (cI, 64, .inl vnext__19))] H → va_D A [(lh, .inl (cI, 64, .inl vh)), (lseen, .inl (cI, 64, .inl vseen__18)), (lnext, .inl (cI, 64, .inl vnext__19))] → va_S A s.heap H locs → lv_has ls 13 [(0, .ref lh), (1, .ref lseen), (2, .ref lnext), (3, .int v3_1), (4, .int v4_2), (5, .int v5_3), (6, .int (v6_10 + (1 : Int32))), (7, .int v7_16), (8, .int w8_15), (9, .int v9_17), (10, .int w10_21), (11, .int w11_23)] → W p l e ({ frames := 0, cells := 2, slots := 128, locals := 0 } : Room) s m ([.ref lh] : List Value).toArray below meth c H locs 2 128 Q (F0 m 165 ls [])) (by
                        intro  hq H locs ls hP hD hS hl
                        refine lv_iconst (v := 0) hx hb dL_pieces_165 (by decide) ?_
                        exact hq _ _ _ hP hD hS (lv_sub hl [0, 1, 2, 3, 4, 5, 6, 7, 8, 9, 10, 11] rfl))
                      refine lv_if_lt (tgt := 165) hx hb dL_pieces_139 (by decide) (fun hc => ?_) (fun hc => ?_)
                      · have hq := hq.1 hc
                        exact hq _ _ _ hP hD hS (lv_sub hl [1, 2, 3, 4, 5, 6, 7, 8, 9, 10, 11, 0] rfl)
                      · have hq := hq.2 hc
                        refine lv_iload hx hb dL_pieces_142 (lv_at hl 11 rfl) ?_
                        refine lv_bipush (v := 8) hx hb dL_pieces_144 (by decide) ?_
                        refine lv_icmp_ge (tgt := 165) hx hb dL_pieces_146 (by decide) (fun hc => ?_) (fun hc => ?_)
                        · have hq := hq.1 hc
                          exact hq _ _ _ hP hD hS (lv_sub hl [1, 2, 3, 4, 5, 6, 7, 8, 9, 10, 11, 0] rfl)
                        · have hq := hq.2 hc
                          refine lv_iload hx hb dL_pieces_149 (lv_at hl 0 rfl) ?_
                          refine lv_if_lt (tgt := 165) hx hb dL_pieces_151 (by decide) (fun hc => ?_) (fun hc => ?_)
                          · have hq := hq.1 hc
                            exact hq _ _ _ hP hD hS (lv_sub hl [1, 2, 3, 4, 5, 6, 7, 8, 9, 10, 11, 0] rfl)
                          · have hq := hq.2 hc
                            refine lv_iload hx hb dL_pieces_154 (lv_at hl 0 rfl) ?_
                            refine lv_bipush (v := 8) hx hb dL_pieces_156 (by decide) ?_
                            refine lv_icmp_ge (tgt := 165) hx hb dL_pieces_158 (by decide) (fun hc => ?_) (fun hc => ?_)
                            · have hq := hq.1 hc
                              exact hq _ _ _ hP hD hS (lv_sub hl [1, 2, 3, 4, 5, 6, 7, 8, 9, 10, 11, 0] rfl)
                            · have hq := hq.2 hc
                              refine lv_iconst (v := 1) hx hb dL_pieces_161 (by decide) ?_
                              refine lv_goto (tgt := 166) hx hb dL_pieces_162 (by decide) ?_
                              exact hq _ _ _ hP hD hS (lv_sub hl [1, 2, 3, 4, 5, 6, 7, 8, 9, 10, 11, 0] rfl))
                    refine lv_icmp_ne (tgt := 123) hx hb dL_pieces_116 (by decide) (fun hc => ?_) (fun hc => ?_)
                    · have hq := hq.1 hc
                      refine lv_iload hx hb dL_pieces_123 (lv_at hl 10 rfl) ?_
                      refine lv_iconst (v := 3) hx hb dL_pieces_125 (by decide) ?_
                      refine lv_icmp_ne (tgt := 133) hx hb dL_pieces_126 (by decide) (fun hc => ?_) (fun hc => ?_)
                      · have hq := hq.1 hc
                        refine lv_iconst (v := 0) hx hb dL_pieces_133 (by decide) ?_
                        exact hq _ _ _ hP hD hS (lv_sub hl [1, 2, 3, 4, 5, 6, 7, 8, 9, 10, 0] rfl)
                      · have hq := hq.2 hc
                        refine lv_iconst (v := -1) hx hb dL_pieces_129 (by decide) ?_
                        refine lv_goto (tgt := 134) hx hb dL_pieces_130 (by decide) ?_
                        exact hq _ _ _ hP hD hS (lv_sub hl [1, 2, 3, 4, 5, 6, 7, 8, 9, 10, 0] rfl)
                    · have hq := hq.2 hc
                      refine lv_iconst (v := 1) hx hb dL_pieces_119 (by decide) ?_
                      refine lv_goto (tgt := 134) hx hb dL_pieces_120 (by decide) ?_
                      exact hq _ _ _ hP hD hS (lv_sub hl [1, 2, 3, 4, 5, 6, 7, 8, 9, 10, 0] rfl))
                  refine lv_if_ne (tgt := 94) hx hb dL_pieces_87 (by decide) (fun hc => ?_) (fun hc => ?_)
                  · have hq := hq.1 hc
                    refine lv_iload hx hb dL_pieces_94 (lv_at hl 9 rfl) ?_
                    refine lv_iconst (v := 1) hx hb dL_pieces_96 (by decide) ?_
                    refine lv_icmp_ne (tgt := 104) hx hb dL_pieces_97 (by decide) (fun hc => ?_) (fun hc => ?_)
                    · have hq := hq.1 hc
                      refine lv_iconst (v := 0) hx hb dL_pieces_104 (by decide) ?_
                      exact hq _ _ _ hP hD hS (lv_sub hl [0, 1, 2, 3, 4, 5, 6, 7, 8, 9] rfl)
                    · have hq := hq.2 hc
                      refine lv_iconst (v := -1) hx hb dL_pieces_100 (by decide) ?_
                      refine lv_goto (tgt := 105) hx hb dL_pieces_101 (by decide) ?_
                      exact hq _ _ _ hP hD hS (lv_sub hl [0, 1, 2, 3, 4, 5, 6, 7, 8, 9] rfl)
                  · have hq := hq.2 hc
                    refine lv_iconst (v := 1) hx hb dL_pieces_90 (by decide) ?_
                    refine lv_goto (tgt := 105) hx hb dL_pieces_91 (by decide) ?_
                    exact hq _ _ _ hP hD hS (lv_sub hl [0, 1, 2, 3, 4, 5, 6, 7, 8, 9] rfl))
              exact hq _ _ _ hP hD hS (lv_sub hl [3, 4, 5, 6, 7, 8, 1, 9, 2, 0] rfl))
          exact hq _ _ _ hP hD hS (lv_sub hl [2, 3, 4, 5, 6, 7, 1, 0] rfl))
  exact hq _ _ _ hP hD hS (lv_sub hl [5, 4, 3, 2, 1, 0] rfl)
set_option maxHeartbeats 4000000 in
set_option maxRecDepth 100000 in
theorem c_L_isSame (l : Launch) (dC : Nat → ClassId) (dI : Nat → Nat → Nat) (cI cC cS : ClassId) (lh : Nat) (sz : Nat) (vh : Nat → Int32) (x1 : Int32) {post : Int32 → Prop} (hq : wp_L_isSame vh x1 post) : Met l yL_isSame wsL_isSame ({ frames := 0, cells := 0, slots := 0, locals := 0 } : Room) (gn_Pre (dC, dI) cI cC cS [.ref lh, .int x1] sz [(lh, .inl (cI, 64, .inl vh))]) (va_Qi (fun (r : Int32) (u : Unit) => post r) (fun (u : Unit) t => va_P (dC, dI) vwCl [(lh, .inl (cI, 64, .inl vh))] t.heap ∧ va_K (dC, dI) vwCl (gn_tys cI cC cS) t ∧ va_D (va_A [(lh, .inl (cI, 64, .inl vh))] sz) [(lh, .inl (cI, 64, .inl vh))]) (va_A [(lh, .inl (cI, 64, .inl vh))] sz)) 0 0 (va_A [(lh, .inl (cI, 64, .inl vh))] sz) := by
  unfold wp_L_isSame at hq
  refine Met.ofW (cc := cL_isSame) (maxL := 6) (ret := (some .boolean)) (by decide) rfl ?_
  intro p e s m args below meth c s₁ B hml hv
  obtain ⟨rfl, hsz, hP, hK, hN, hD0⟩ := hv
  have hx := B.exec
  have hb := B.bytes
  have hr := B.returns
  have hts := atoms_spec (ws := wsL_isSame) B.pre
  have hown : s.vm.findClass RL = some m.cls := findClass_of_methodNamed B.named
  have hlocks := B.notSynchronized
  subst hsz
  have hD := hD0.self (sz := s.heap.size)
  generalize hAe : va_A [(lh, .inl (cI, 64, .inl vh))] s.heap.size = A at hD ⊢
  have hA : ∀ q : Nat, s.heap.size ≤ q → A q := fun q h => by rw [← hAe]; exact Or.inr h
  have hS : va_S A s.heap s.heap [] := va_S.rf
  have hl := lv_entry ([.ref lh, .int x1] : List Value) (n := 6) (Nat.le_of_ble_eq_true rfl)
  rw [lg_entry_eq]
  generalize (lg_sl ([.ref lh, .int x1] : List Value) ++ List.replicate (6 - (lg_sl ([.ref lh, .int x1] : List Value)).length) Slot.unset).toArray = ls at hl ⊢
  have hl : lv_has ls 6 [(0, .ref lh), (1, .int x1)] := hl
  refine gn_Q (hret := fun Q => ∀ (pc : Nat) (ls : Array Slot) (H : Heap) (locs : List Loc) (r : Int32) , decode cL_isSame pc = .ok (.ireturn, 1) → va_P (dC, dI) vwCl [(lh, .inl (cI, 64, .inl vh))] H → va_D A [(lh, .inl (cI, 64, .inl vh))] → va_S A s.heap H locs → (r = 0 ∨ r = 1) → post r → W p l e ({ frames := 0, cells := 0, slots := 0, locals := 0 } : Room) s m ([.ref lh, .int x1] : List Value).toArray below meth c H locs 0 0 Q (F0 m pc ls [.int r])) (fun Q hret => ?_) ?_
  rotate_left
  · intro pc ls H locs r hdg hP hD hS hz hpost
    exact W.zret (v := r) hx hb hr (gn_nz hz) (fun t ht hW => ⟨⟨r, (), rfl, hpost, by rw [ht]; exact hP, va_K.moved hW.alike hK, hD⟩, hS.F ht⟩) hS.2.2 hdg
  refine lv_iconst (v := 0) hx hb dL_isSame_0 (by decide) ?_
  refine lv_istore_n (lv' := [(2, .int (0 : Int32)), (0, .ref lh), (1, .int x1)]) hx hb dL_isSame_1 rfl hl (by decide) rfl (fun ls hl => ?_)
  have hq := hq (fun (v2_1 : Int32) => ∀ (H : Heap) (locs : List Loc) (ls : Array Slot), va_P (dC, dI) vwCl [(lh, .inl (cI, 64, .inl vh))] H → va_D A [(lh, .inl (cI, 64, .inl vh))] → va_S A s.heap H locs → lv_has ls 6 [(0, .ref lh), (1, .int x1), (2, .int v2_1)] → W p l e ({ frames := 0, cells := 0, slots := 0, locals := 0 } : Room) s m ([.ref lh, .int x1] : List Value).toArray below meth c H locs 0 0 Q (F0 m 2 ls [])) (by
    intro v2_1 hq H locs ls hP hD hS hl
    refine lv_iload_n hx hb dL_isSame_2 rfl (lv_at hl 2 rfl) ?_
    refine lv_bipush (v := 64) hx hb dL_isSame_3 (by decide) ?_
    refine lv_icmp_ge (tgt := 93) hx hb dL_isSame_5 (by decide) (fun hc => ?_) (fun hc => ?_)
    · have hq := hq.1 hc
      refine lv_iconst (v := 1) hx hb dL_isSame_93 (by decide) ?_
      have hz := hq.1
      have hq := hq.2
      exact hret _ _ _ _ _ dL_isSame_94 hP hD hS hz hq
    · have hq := hq.2 hc
      refine lv_iload_n hx hb dL_isSame_8 rfl (lv_at hl 2 rfl) ?_
      refine lv_bipush (v := 8) hx hb dL_isSame_9 (by decide) ?_
      refine lv_irem hx hb dL_isSame_11 (by decide) ?_
      refine lv_topi (fun w3_2 ew3_2 => ?_)
      have hq := hq w3_2 ew3_2
      refine lv_istore_n (lv' := [(3, .int w3_2), (0, .ref lh), (1, .int x1), (2, .int v2_1)]) hx hb dL_isSame_12 rfl hl (by decide) rfl (fun ls hl => ?_)
      refine lv_iload_n hx hb dL_isSame_13 rfl (lv_at hl 3 rfl) ?_
      refine lv_bipush (v := 8) hx hb dL_isSame_14 (by decide) ?_
      refine lv_idiv hx hb dL_isSame_16 (by decide) ?_
      refine lv_topi (fun w4_3 ew4_3 => ?_)
      have hq := hq w4_3 ew4_3
      refine lv_istore (lv' := [(4, .int w4_3), (3, .int w3_2), (0, .ref lh), (1, .int x1), (2, .int v2_1)]) hx hb dL_isSame_17 hl (by decide) rfl (fun ls hl => ?_)
      refine lv_iload_n hx hb dL_isSame_19 rfl (lv_at hl 3 rfl) ?_
      have hq := hq (fun (t_4 : Int32) => ∀ (H : Heap) (locs : List Loc) (ls : Array Slot), va_P (dC, dI) vwCl [(lh, .inl (cI, 64, .inl vh))] H → va_D A [(lh, .inl (cI, 64, .inl vh))] → va_S A s.heap H locs → lv_has ls 6 [(0, .ref lh), (1, .int x1), (2, .int v2_1)] → W p l e ({ frames := 0, cells := 0, slots := 0, locals := 0 } : Room) s m ([.ref lh, .int x1] : List Value).toArray below meth c H locs 0 0 Q (F0 m 73 ls [.int t_4])) (by
        intro t_4 hq H locs ls hP hD hS hl
        refine lv_istore (lv' := [(5, .int t_4), (0, .ref lh), (1, .int x1), (2, .int v2_1)]) hx hb dL_isSame_73 hl (by decide) rfl (fun ls hl => ?_)
        refine lv_aload_n hx hb dL_isSame_75 rfl (lv_at hl 1 rfl) ?_
        refine lv_iload_n hx hb dL_isSame_76 rfl (lv_at hl 3 rfl) ?_
        have hin := hq.1
        have hq := hq.2
        refine va_iald hx hb hK hP 0 0 rfl rfl hin dL_isSame_77 ?_
        refine lv_aload_n hx hb dL_isSame_78 rfl (lv_at hl 1 rfl) ?_
        refine lv_iload hx hb dL_isSame_79 (lv_at hl 0 rfl) ?_
        have hin := hq.1
        have hq := hq.2
        refine va_iald hx hb hK hP 0 0 rfl rfl hin dL_isSame_81 ?_
        refine lv_icmp_eq (tgt := 87) hx hb dL_isSame_82 (by decide) (fun hc => ?_) (fun hc => ?_)
        · have hq := hq.1 hc
          refine lv_iinc (v := (v2_1 + (1 : Int32))) (lv' := [(2, .int (v2_1 + (1 : Int32))), (5, .int t_4), (0, .ref lh), (1, .int x1)]) hx hb dL_isSame_87 hl (k := 3) rfl rfl (by decide) rfl (fun ls hl => ?_)
          refine lv_goto (tgt := 2) hx hb dL_isSame_90 (by decide) ?_
          exact hq _ _ _ hP hD hS (lv_sub hl [2, 3, 0] rfl)
        · have hq := hq.2 hc
          refine lv_iconst (v := 0) hx hb dL_isSame_85 (by decide) ?_
          have hz := hq.1
          have hq := hq.2
          exact hret _ _ _ _ _ dL_isSame_86 hP hD hS hz hq)
      refine lv_if_ne (tgt := 36) hx hb dL_isSame_20 (by decide) (fun hc => ?_) (fun hc => ?_)
      · have hq := hq.1 hc
        refine lv_iload_n hx hb dL_isSame_36 rfl (lv_at hl 3 rfl) ?_
        refine lv_iconst (v := 1) hx hb dL_isSame_37 (by decide) ?_
        refine lv_icmp_ne (tgt := 54) hx hb dL_isSame_38 (by decide) (fun hc => ?_) (fun hc => ?_)
        · have hq := hq.1 hc
          refine lv_iload_n hx hb dL_isSame_54 rfl (lv_at hl 3 rfl) ?_
          refine lv_iconst (v := 2) hx hb dL_isSame_55 (by decide) ?_
          refine lv_icmp_ne (tgt := 66) hx hb dL_isSame_56 (by decide) (fun hc => ?_) (fun hc => ?_)
          · have hq := hq.1 hc
            refine lv_bipush (v := 8) hx hb dL_isSame_66 (by decide) ?_
            refine lv_iload_n hx hb dL_isSame_68 rfl (lv_at hl 1 rfl) ?_
            refine lv_imul hx hb dL_isSame_69 ?_
            refine lv_iload hx hb dL_isSame_70 (lv_at hl 0 rfl) ?_
            refine lv_iadd hx hb dL_isSame_72 ?_
            exact hq _ _ _ hP hD hS (lv_sub hl [2, 3, 4] rfl)
          · have hq := hq.2 hc
            refine lv_bipush (v := 63) hx hb dL_isSame_59 (by decide) ?_
            refine lv_iload_n hx hb dL_isSame_61 rfl (lv_at hl 4 rfl) ?_
            refine lv_isub hx hb dL_isSame_62 ?_
            refine lv_goto (tgt := 73) hx hb dL_isSame_63 (by decide) ?_
            exact hq _ _ _ hP hD hS (lv_sub hl [2, 3, 4] rfl)
        · have hq := hq.2 hc
          refine lv_bipush (v := 8) hx hb dL_isSame_41 (by decide) ?_
          refine lv_bipush (v := 7) hx hb dL_isSame_43 (by decide) ?_
          refine lv_iload hx hb dL_isSame_45 (lv_at hl 0 rfl) ?_
          refine lv_isub hx hb dL_isSame_47 ?_
          refine lv_imul hx hb dL_isSame_48 ?_
          refine lv_iload_n hx hb dL_isSame_49 rfl (lv_at hl 1 rfl) ?_
          refine lv_iadd hx hb dL_isSame_50 ?_
          refine lv_goto (tgt := 73) hx hb dL_isSame_51 (by decide) ?_
          exact hq _ _ _ hP hD hS (lv_sub hl [2, 3, 4] rfl)
      · have hq := hq.2 hc
        refine lv_bipush (v := 8) hx hb dL_isSame_23 (by decide) ?_
        refine lv_iload hx hb dL_isSame_25 (lv_at hl 0 rfl) ?_
        refine lv_imul hx hb dL_isSame_27 ?_
        refine lv_bipush (v := 7) hx hb dL_isSame_28 (by decide) ?_
        refine lv_iadd hx hb dL_isSame_30 ?_
        refine lv_iload_n hx hb dL_isSame_31 rfl (lv_at hl 1 rfl) ?_
        refine lv_isub hx hb dL_isSame_32 ?_
        refine lv_goto (tgt := 73) hx hb dL_isSame_33 (by decide) ?_
        exact hq _ _ _ hP hD hS (lv_sub hl [2, 3, 4] rfl))
  exact hq _ _ _ hP hD hS (lv_sub hl [1, 2, 0] rfl)
set_option maxRecDepth 20000 in
theorem kwL_punches_arrint : Cond.arrayClass .int ∈ wsL_punches := by decide +kernel
set_option maxHeartbeats 4000000 in
set_option maxRecDepth 100000 in
theorem c_L_punches (l : Launch) (dC : Nat → ClassId) (dI : Nat → Nat → Nat) (cI cC cS : ClassId) (lf : Nat) (lt : Nat) (sz : Nat) (vf : Nat → Int32) (vt : Nat → Int32) {post : Int32 → Prop} (hq : wp_L_punches vf vt post) : Met l yL_punches wsL_punches ({ frames := 2, cells := 1, slots := 64, locals := 53 } : Room) (gn_Pre (dC, dI) cI cC cS [.ref lf, .ref lt] sz [(lf, .inl (cI, 7, .inl vf)), (lt, .inl (cI, 8, .inl vt))]) (va_Qi (fun (r : Int32) (u : Unit) => post r) (fun (u : Unit) t => va_P (dC, dI) vwCl [(lf, .inl (cI, 7, .inl vf)), (lt, .inl (cI, 8, .inl vt))] t.heap ∧ va_K (dC, dI) vwCl (gn_tys cI cC cS) t ∧ va_D (va_A [(lf, .inl (cI, 7, .inl vf)), (lt, .inl (cI, 8, .inl vt))] sz) [(lf, .inl (cI, 7, .inl vf)), (lt, .inl (cI, 8, .inl vt))]) (va_A [(lf, .inl (cI, 7, .inl vf)), (lt, .inl (cI, 8, .inl vt))] sz)) 1 64 (va_A [(lf, .inl (cI, 7, .inl vf)), (lt, .inl (cI, 8, .inl vt))] sz) := by
  unfold wp_L_punches at hq
  refine Met.ofW (cc := cL_punches) (maxL := 7) (ret := (some .int)) (by decide) rfl ?_
  intro p e s m args below meth c s₁ B hml hv
  obtain ⟨rfl, hsz, hP, hK, hN, hD0⟩ := hv
  have hx := B.exec
  have hb := B.bytes
  have hr := B.returns
  have hts := atoms_spec (ws := wsL_punches) B.pre
  have hown : s.vm.findClass RL = some m.cls := findClass_of_methodNamed B.named
  have hlocks := B.notSynchronized
  subst hsz
  have hD := hD0.self (sz := s.heap.size)
  generalize hAe : va_A [(lf, .inl (cI, 7, .inl vf)), (lt, .inl (cI, 8, .inl vt))] s.heap.size = A at hD ⊢
  have hA : ∀ q : Nat, s.heap.size ≤ q → A q := fun q h => by rw [← hAe]; exact Or.inr h
  have hS : va_S A s.heap s.heap [] := va_S.rf
  have hl := lv_entry ([.ref lf, .ref lt] : List Value) (n := 7) (Nat.le_of_ble_eq_true rfl)
  rw [lg_entry_eq]
  generalize (lg_sl ([.ref lf, .ref lt] : List Value) ++ List.replicate (7 - (lg_sl ([.ref lf, .ref lt] : List Value)).length) Slot.unset).toArray = ls at hl ⊢
  have hl : lv_has ls 7 [(0, .ref lf), (1, .ref lt)] := hl
  refine gn_Q (hret := fun Q => ∀ (pc : Nat) (ls : Array Slot) (H : Heap) (locs : List Loc) (r : Int32) , decode cL_punches pc = .ok (.ireturn, 1) → va_P (dC, dI) vwCl [(lf, .inl (cI, 7, .inl vf)), (lt, .inl (cI, 8, .inl vt))] H → va_D A [(lf, .inl (cI, 7, .inl vf)), (lt, .inl (cI, 8, .inl vt))] → va_S A s.heap H locs → post r → W p l e ({ frames := 2, cells := 1, slots := 64, locals := 53 } : Room) s m ([.ref lf, .ref lt] : List Value).toArray below meth c H locs 1 64 Q (F0 m pc ls [.int r])) (fun Q hret => ?_) ?_
  rotate_left
  · intro pc ls H locs r hdg hP hD hS hpost
    exact W.iret (v := r) hx hb hr (fun t ht hW => ⟨⟨r, (), rfl, hpost, by rw [ht]; exact hP, va_K.moved hW.alike hK, hD⟩, hS.F ht⟩) hS.2.2 hdg
  refine lv_aload_n hx hb dL_punches_0 rfl (lv_at hl 0 rfl) ?_
  refine lv_aload_n hx hb dL_punches_1 rfl (lv_at hl 0 rfl) ?_
  refine lv_bipush (v := 6) hx hb dL_punches_2 (by decide) ?_
  have hin := hq.1
  have hq := hq.2
  refine va_iald hx hb hK hP 0 0 rfl rfl hin dL_punches_4 ?_
  have hPc := hP.sub (ws' := [(lf, .inl (cI, 7, .inl vf))]) [0] rfl
  have hDc := hD.sub (ws' := [(lf, .inl (cI, 7, .inl vf))]) [0] (by decide) rfl
  have hFc := va_free (wc := [(lf, .inl (cI, 7, .inl vf))]) hD hS hA [0] rfl
  refine va_calli (va_runS (As := [.ref lf, .int (vf ((6 : Int32)).toNatClampNeg)]) (rest := []) ⟨hx, hb, hml, hown, hts⟩ (c_L_wide l dC dI cI cC cS lf _ vf (vf ((6 : Int32)).toNatClampNeg) hq) (va_cwS 2 hts gL_punches_L_wide rfl rfl rfl (by decide +kernel) ⟨Nat.le_of_ble_eq_true rfl, Nat.le_of_ble_eq_true rfl⟩) (gn_preS hPc hK hN hDc) rfl rfl hl.1 rfl (lv_room (Nat.le_of_ble_eq_true rfl)) dL_punches_5 ⟨Nat.zero_le _, Nat.zero_le _⟩) hS (fun q _ h => hFc q h) hFc (fun r_1 u t H1 locs ht hvm hq hB hz1 hk1 hS => ?_)
  obtain ⟨hP1, hK1, hD1⟩ := hB
  rw [ht] at hP1
  try dsimp only at hq
  have hP := gn_ro (wc := [(lf, .inl (cI, 7, .inl vf))]) hP hD [0] rfl hk1 hP1
  generalize H1 = H at hP hS ⊢
  refine lv_istore_n (lv' := [(2, .int r_1), (0, .ref lf), (1, .ref lt)]) hx hb dL_punches_8 rfl hl (by decide) rfl (fun ls hl => ?_)
  refine lv_aload_n hx hb dL_punches_9 rfl (lv_at hl 1 rfl) ?_
  have hPc := hP.sub (ws' := [(lf, .inl (cI, 7, .inl vf))]) [0] rfl
  have hDc := hD.sub (ws' := [(lf, .inl (cI, 7, .inl vf))]) [0] (by decide) rfl
  have hFc := va_free (wc := [(lf, .inl (cI, 7, .inl vf))]) hD hS hA [0] rfl
  refine va_calli (va_runS (As := [.ref lf]) (rest := []) ⟨hx, hb, hml, hown, hts⟩ (c_L_layers l dC dI cI cC cS lf _ vf hq) (va_cwS 1 hts gL_punches_L_layers rfl rfl rfl (by decide +kernel) ⟨Nat.le_of_ble_eq_true rfl, Nat.le_of_ble_eq_true rfl⟩) (gn_preS hPc hK hN hDc) rfl rfl hl.1 rfl (lv_room (Nat.le_of_ble_eq_true rfl)) dL_punches_10 ⟨Nat.zero_le _, Nat.zero_le _⟩) hS (fun q _ h => hFc q h) hFc (fun r_2 u t H1 locs ht hvm hq hB hz1 hk1 hS => ?_)
  obtain ⟨hP1, hK1, hD1⟩ := hB
  rw [ht] at hP1
  try dsimp only at hq
  have hP := gn_ro (wc := [(lf, .inl (cI, 7, .inl vf))]) hP hD [0] rfl hk1 hP1
  generalize H1 = H at hP hS ⊢
  refine lv_istore_n (lv' := [(3, .int r_2), (2, .int r_1), (0, .ref lf), (1, .ref lt)]) hx hb dL_punches_13 rfl hl (by decide) rfl (fun ls hl => ?_)
  refine lv_bipush (v := 64) hx hb dL_punches_14 (by decide) ?_
  refine gn_newI hx hb (hts _ kwL_punches_arrint) hK hP hD hS hA (N' := 64) (by decide) (by decide) (Nat.le_of_ble_eq_true rfl) (Nat.le_of_ble_eq_true rfl) (Nat.le_of_ble_eq_true rfl) dL_punches_16 (fun lwant H hP hD hS => ?_)
  have hP : va_P (dC, dI) vwCl [(lf, .inl (cI, 7, .inl vf)), (lt, .inl (cI, 8, .inl vt)), (lwant, .inl (cI, 64, .inl (fun _ => 0)))] H := hP
  have hD : va_D A [(lf, .inl (cI, 7, .inl vf)), (lt, .inl (cI, 8, .inl vt)), (lwant, .inl (cI, 64, .inl (fun _ => 0)))] := hD
  refine W.widen (k := 1) (n := 64) (by omega) (by omega) ?_
  refine lv_astore (lv' := [(4, .ref lwant), (3, .int r_2), (2, .int r_1), (0, .ref lf), (1, .ref lt)]) hx hb dL_punches_18 hl (by decide) rfl (fun ls hl => ?_)
  refine lv_iconst (v := 0) hx hb dL_punches_20 (by decide) ?_
  refine lv_istore (lv' := [(5, .int (0 : Int32)), (4, .ref lwant), (3, .int r_2), (2, .int r_1), (0, .ref lf), (1, .ref lt)]) hx hb dL_punches_21 hl (by decide) rfl (fun ls hl => ?_)
  have hq := hq (fun (v5_3 : Int32) (vwant__4 : Nat → Int32) => ∀ (H : Heap) (locs : List Loc) (ls : Array Slot), va_P (dC, dI) vwCl [(lf, .inl (cI, 7, .inl vf)), (lt, .inl (cI, 8, .inl vt)), (lwant, .inl (cI, 64, .inl vwant__4))] H → va_D A [(lf, .inl (cI, 7, .inl vf)), (lt, .inl (cI, 8, .inl vt)), (lwant, .inl (cI, 64, .inl vwant__4))] → va_S A s.heap H locs → lv_has ls 7 [(0, .ref lf), (1, .ref lt), (2, .int r_1), (3, .int r_2), (4, .ref lwant), (5, .int v5_3)] → W p l e ({ frames := 2, cells := 1, slots := 64, locals := 53 } : Room) s m ([.ref lf, .ref lt] : List Value).toArray below meth c H locs 1 64 Q (F0 m 23 ls [])) (by
    intro v5_3 vwant__4 hq H locs ls hP hD hS hl
    refine lv_iload hx hb dL_punches_23 (lv_at hl 5 rfl) ?_
    refine lv_bipush (v := 64) hx hb dL_punches_25 (by decide) ?_
    refine lv_icmp_ge (tgt := 66) hx hb dL_punches_27 (by decide) (fun hc => ?_) (fun hc => ?_)
    · have hq := hq.1 hc
      refine lv_iconst (v := 0) hx hb dL_punches_66 (by decide) ?_
      refine lv_istore (lv' := [(5, .int (0 : Int32)), (0, .ref lf), (1, .ref lt), (2, .int r_1), (3, .int r_2), (4, .ref lwant)]) hx hb dL_punches_67 hl (by decide) rfl (fun ls hl => ?_)
      refine lv_iconst (v := 0) hx hb dL_punches_69 (by decide) ?_
      refine lv_istore (lv' := [(6, .int (0 : Int32)), (5, .int (0 : Int32)), (0, .ref lf), (1, .ref lt), (2, .int r_1), (3, .int r_2), (4, .ref lwant)]) hx hb dL_punches_70 hl (by decide) rfl (fun ls hl => ?_)
      have hq := hq (fun (v5_5 : Int32) (v6_6 : Int32) => ∀ (H : Heap) (locs : List Loc) (ls : Array Slot), va_P (dC, dI) vwCl [(lf, .inl (cI, 7, .inl vf)), (lt, .inl (cI, 8, .inl vt)), (lwant, .inl (cI, 64, .inl vwant__4))] H → va_D A [(lf, .inl (cI, 7, .inl vf)), (lt, .inl (cI, 8, .inl vt)), (lwant, .inl (cI, 64, .inl vwant__4))] → va_S A s.heap H locs → lv_has ls 7 [(2, .int r_1), (3, .int r_2), (4, .ref lwant), (5, .int v5_5), (6, .int v6_6)] → W p l e ({ frames := 2, cells := 1, slots := 64, locals := 53 } : Room) s m ([.ref lf, .ref lt] : List Value).toArray below meth c H locs 1 64 Q (F0 m 72 ls [])) (by
        intro v5_5 v6_6 hq H locs ls hP hD hS hl
        refine lv_iload hx hb dL_punches_72 (lv_at hl 4 rfl) ?_
        refine lv_bipush (v := 64) hx hb dL_punches_74 (by decide) ?_
        refine lv_icmp_ge (tgt := 122) hx hb dL_punches_76 (by decide) (fun hc => ?_) (fun hc => ?_)
        · have hq := hq.1 hc
          refine lv_iload_n hx hb dL_punches_122 rfl (lv_at hl 0 rfl) ?_
          refine lv_if_le (tgt := 131) hx hb dL_punches_123 (by decide) (fun hc => ?_) (fun hc => ?_)
          · have hq := hq.1 hc
            refine lv_iconst (v := -1) hx hb dL_punches_131 (by decide) ?_
            have hP := hP.sub (ws' := [(lf, .inl (cI, 7, .inl vf)), (lt, .inl (cI, 8, .inl vt))]) [0, 1] rfl
            have hD := hD.sub (ws' := [(lf, .inl (cI, 7, .inl vf)), (lt, .inl (cI, 8, .inl vt))]) [0, 1] (by decide) rfl
            exact hret _ _ _ _ _ dL_punches_132 hP hD hS hq
          · have hq := hq.2 hc
            refine lv_iload hx hb dL_punches_126 (lv_at hl 3 rfl) ?_
            refine lv_goto (tgt := 132) hx hb dL_punches_128 (by decide) ?_
            have hP := hP.sub (ws' := [(lf, .inl (cI, 7, .inl vf)), (lt, .inl (cI, 8, .inl vt))]) [0, 1] rfl
            have hD := hD.sub (ws' := [(lf, .inl (cI, 7, .inl vf)), (lt, .inl (cI, 8, .inl vt))]) [0, 1] (by decide) rfl
            exact hret _ _ _ _ _ dL_punches_132 hP hD hS hq
        · have hq := hq.2 hc
          refine lv_aload hx hb dL_punches_79 (lv_at hl 2 rfl) ?_
          refine lv_iload hx hb dL_punches_81 (lv_at hl 4 rfl) ?_
          have hin := hq.1
          have hq := hq.2
          refine va_iald hx hb hK hP 2 0 rfl rfl hin dL_punches_83 ?_
          have hq := hq (∀ (H : Heap) (locs : List Loc) (ls : Array Slot), va_P (dC, dI) vwCl [(lf, .inl (cI, 7, .inl vf)), (lt, .inl (cI, 8, .inl vt)), (lwant, .inl (cI, 64, .inl vwant__4))] H → va_D A [(lf, .inl (cI, 7, .inl vf)), (lt, .inl (cI, 8, .inl vt)), (lwant, .inl (cI, 64, .inl vwant__4))] → va_S A s.heap H locs → lv_has ls 7 [(2, .int r_1), (3, .int r_2), (4, .ref lwant), (5, .int v5_5), (6, .int v6_6)] → W p l e ({ frames := 2, cells := 1, slots := 64, locals := 53 } : Room) s m ([.ref lf, .ref lt] : List Value).toArray below meth c H locs 1 64 Q (F0 m 98 ls [])) (by
            intro  hq H locs ls hP hD hS hl
            refine lv_iload hx hb dL_punches_98 (lv_at hl 3 rfl) ?_
            refine lv_aload hx hb dL_punches_100 (lv_at hl 2 rfl) ?_
            refine lv_iload hx hb dL_punches_102 (lv_at hl 4 rfl) ?_
            have hin := hq.1
            have hq := hq.2
            refine va_iald hx hb hK hP 2 0 rfl rfl hin dL_punches_104 ?_
            have hq := hq (fun (t_7 : Int32) => ∀ (H : Heap) (locs : List Loc) (ls : Array Slot), va_P (dC, dI) vwCl [(lf, .inl (cI, 7, .inl vf)), (lt, .inl (cI, 8, .inl vt)), (lwant, .inl (cI, 64, .inl vwant__4))] H → va_D A [(lf, .inl (cI, 7, .inl vf)), (lt, .inl (cI, 8, .inl vt)), (lwant, .inl (cI, 64, .inl vwant__4))] → va_S A s.heap H locs → lv_has ls 7 [(2, .int r_1), (3, .int r_2), (4, .ref lwant), (6, .int v6_6)] → W p l e ({ frames := 2, cells := 1, slots := 64, locals := 53 } : Room) s m ([.ref lf, .ref lt] : List Value).toArray below meth c H locs 1 64 Q (F0 m 113 ls [.int t_7, .int v5_5])) (by
              intro t_7 hq H locs ls hP hD hS hl
              refine lv_iadd hx hb dL_punches_113 ?_
              refine lv_topi (fun w5_8 ew5_8 => ?_)
              have hq := hq w5_8 ew5_8
              refine lv_istore (lv' := [(5, .int w5_8), (2, .int r_1), (3, .int r_2), (4, .ref lwant), (6, .int v6_6)]) hx hb dL_punches_114 hl (by decide) rfl (fun ls hl => ?_)
              refine lv_iinc (v := (v6_6 + (1 : Int32))) (lv' := [(6, .int (v6_6 + (1 : Int32))), (5, .int w5_8), (2, .int r_1), (3, .int r_2), (4, .ref lwant)]) hx hb dL_punches_116 hl (k := 4) rfl rfl (by decide) rfl (fun ls hl => ?_)
              refine lv_goto (tgt := 72) hx hb dL_punches_119 (by decide) ?_
              exact hq _ _ _ hP hD hS (lv_sub hl [2, 3, 4, 1, 0] rfl))
            refine lv_if_le (tgt := 112) hx hb dL_punches_105 (by decide) (fun hc => ?_) (fun hc => ?_)
            · have hq := hq.1 hc
              refine lv_iconst (v := 0) hx hb dL_punches_112 (by decide) ?_
              exact hq _ _ _ hP hD hS (lv_sub hl [0, 1, 2, 4] rfl)
            · have hq := hq.2 hc
              refine lv_iconst (v := 1) hx hb dL_punches_108 (by decide) ?_
              refine lv_goto (tgt := 113) hx hb dL_punches_109 (by decide) ?_
              exact hq _ _ _ hP hD hS (lv_sub hl [0, 1, 2, 4] rfl))
          refine lv_if_le (tgt := 98) hx hb dL_punches_84 (by decide) (fun hc => ?_) (fun hc => ?_)
          · have hq := hq.1 hc
            exact hq _ _ _ hP hD hS (lv_sub hl [0, 1, 2, 3, 4] rfl)
          · have hq := hq.2 hc
            refine lv_aload hx hb dL_punches_87 (lv_at hl 2 rfl) ?_
            refine lv_iload hx hb dL_punches_89 (lv_at hl 4 rfl) ?_
            have hin := hq.1
            have hq := hq.2
            refine va_iald hx hb hK hP 2 0 rfl rfl hin dL_punches_91 ?_
            refine lv_iload_n hx hb dL_punches_92 rfl (lv_at hl 1 rfl) ?_
            refine lv_icmp_ge (tgt := 98) hx hb dL_punches_93 (by decide) (fun hc => ?_) (fun hc => ?_)
            · have hq := hq.1 hc
              exact hq _ _ _ hP hD hS (lv_sub hl [0, 1, 2, 3, 4] rfl)
            · have hq := hq.2 hc
              refine lv_iconst (v := -1) hx hb dL_punches_96 (by decide) ?_
              have hP := hP.sub (ws' := [(lf, .inl (cI, 7, .inl vf)), (lt, .inl (cI, 8, .inl vt))]) [0, 1] rfl
              have hD := hD.sub (ws' := [(lf, .inl (cI, 7, .inl vf)), (lt, .inl (cI, 8, .inl vt))]) [0, 1] (by decide) rfl
              exact hret _ _ _ _ _ dL_punches_97 hP hD hS hq)
      exact hq _ _ _ hP hD hS (lv_sub hl [4, 5, 6, 1, 0] rfl)
    · have hq := hq.2 hc
      refine lv_aload hx hb dL_punches_30 (lv_at hl 4 rfl) ?_
      refine lv_aload_n hx hb dL_punches_32 rfl (lv_at hl 0 rfl) ?_
      refine lv_iload hx hb dL_punches_33 (lv_at hl 5 rfl) ?_
      have hPc := hP.sub (ws' := [(lf, .inl (cI, 7, .inl vf))]) [0] rfl
      have hDc := hD.sub (ws' := [(lf, .inl (cI, 7, .inl vf))]) [0] (by decide) rfl
      have hFc := va_free (wc := [(lf, .inl (cI, 7, .inl vf))]) hD hS hA [0] rfl
      refine va_calli (va_runS (As := [.ref lf, .int v5_3]) (rest := [.ref lwant]) ⟨hx, hb, hml, hown, hts⟩ (c_L_where l dC dI cI cC cS lf _ vf v5_3 hq) (va_cwS 2 hts gL_punches_L_where rfl rfl rfl (by decide +kernel) ⟨Nat.le_of_ble_eq_true rfl, Nat.le_of_ble_eq_true rfl⟩) (gn_preS hPc hK hN hDc) rfl rfl hl.1 rfl (lv_room (Nat.le_of_ble_eq_true rfl)) dL_punches_35 ⟨Nat.le_of_ble_eq_true rfl, Nat.le_of_ble_eq_true rfl⟩) hS (fun q _ h => hFc q h) hFc (fun r_9 u t H1 locs ht hvm hq hB hz1 hk1 hS => ?_)
      obtain ⟨hP1, hK1, hD1⟩ := hB
      rw [ht] at hP1
      try dsimp only at hq
      have hP := gn_ro (wc := [(lf, .inl (cI, 7, .inl vf))]) hP hD [0] rfl hk1 hP1
      generalize H1 = H at hP hS ⊢
      refine lv_bipush (v := 64) hx hb dL_punches_38 (by decide) ?_
      refine lv_irem hx hb dL_punches_40 (by decide) ?_
      refine lv_dup2_11 hx hb dL_punches_41 rfl rfl ?_
      have hin := hq.1
      have hq := hq.2
      refine va_iald hx hb hK hP 2 0 rfl rfl hin dL_punches_42 ?_
      refine lv_aload_n hx hb dL_punches_43 rfl (lv_at hl 1 rfl) ?_
      refine lv_iload hx hb dL_punches_44 (lv_at hl 5 rfl) ?_
      refine lv_bipush (v := 8) hx hb dL_punches_46 (by decide) ?_
      refine lv_idiv hx hb dL_punches_48 (by decide) ?_
      have hin := hq.1
      have hq := hq.2
      refine va_iald hx hb hK hP 1 0 rfl rfl hin dL_punches_49 ?_
      refine lv_iload hx hb dL_punches_50 (lv_at hl 5 rfl) ?_
      refine lv_bipush (v := 8) hx hb dL_punches_52 (by decide) ?_
      refine lv_irem hx hb dL_punches_54 (by decide) ?_
      refine lv_ishr hx hb dL_punches_55 ?_
      refine lv_iconst (v := 1) hx hb dL_punches_56 (by decide) ?_
      refine lv_iand hx hb dL_punches_57 ?_
      refine lv_iadd hx hb dL_punches_58 ?_
      have hin := hq.1
      have hq := hq.2
      refine va_iast hx hb hK hP hD hS 2 0 rfl rfl hin dL_punches_59 (fun H locs hP hD hS => ?_)
      have hP : va_P (dC, dI) vwCl [(lf, .inl (cI, 7, .inl vf)), (lt, .inl (cI, 8, .inl vt)), (lwant, .inl (cI, 64, .inl (upd vwant__4 ((r_9 - r_9 / (64 : Int32) * (64 : Int32))).toNatClampNeg ((vwant__4 ((r_9 - r_9 / (64 : Int32) * (64 : Int32))).toNatClampNeg) + (((vt ((v5_3 / (8 : Int32))).toNatClampNeg) >>> ((v5_3 - v5_3 / (8 : Int32) * (8 : Int32)) &&& (31 : Int32))) &&& (1 : Int32))))))] H := hP
      have hD : va_D A [(lf, .inl (cI, 7, .inl vf)), (lt, .inl (cI, 8, .inl vt)), (lwant, .inl (cI, 64, .inl (upd vwant__4 ((r_9 - r_9 / (64 : Int32) * (64 : Int32))).toNatClampNeg ((vwant__4 ((r_9 - r_9 / (64 : Int32) * (64 : Int32))).toNatClampNeg) + (((vt ((v5_3 / (8 : Int32))).toNatClampNeg) >>> ((v5_3 - v5_3 / (8 : Int32) * (8 : Int32)) &&& (31 : Int32))) &&& (1 : Int32))))))] := hD
      refine lv_iinc (v := (v5_3 + (1 : Int32))) (lv' := [(5, .int (v5_3 + (1 : Int32))), (0, .ref lf), (1, .ref lt), (2, .int r_1), (3, .int r_2), (4, .ref lwant)]) hx hb dL_punches_60 hl (k := 5) rfl rfl (by decide) rfl (fun ls hl => ?_)
      refine lv_goto (tgt := 23) hx hb dL_punches_63 (by decide) ?_
      exact hq _ _ _ hP hD hS (lv_sub hl [1, 2, 3, 4, 5, 0] rfl))
  exact hq _ _ _ hP hD hS (lv_sub hl [4, 5, 3, 2, 1, 0] rfl)
