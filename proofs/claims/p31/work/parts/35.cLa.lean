def wp_L_low (x0 : Int32) (x1 : Int32) (post : Int32 → Prop) : Prop :=
  ¬ x1 = 0 ∧ (post ((x0 &&& (2147483647 : Int32)) - (x0 &&& (2147483647 : Int32)) / x1 * x1))
def wp_L_wide (vf : Nat → Int32) (x1 : Int32) (post : Int32 → Prop) : Prop :=
  ∀ (P5 : Int32 → Int32 → Prop), (∀ (v2_1 : Int32) (v3_2 : Int32), (((x1 ≤ v3_2) → post v2_1) ∧ ((¬ x1 ≤ v3_2) → vp_in v3_2 7 ∧ (∀ (P24 : Int32 → Prop), (∀ (t_3 : Int32), (P5 t_3 (v3_2 + (1 : Int32))) → P24 t_3) → (((2 : Int32) ≤ (vf (v3_2).toNatClampNeg)) → P24 v2_1) ∧ ((¬ (2 : Int32) ≤ (vf (v3_2).toNatClampNeg)) → P24 (v2_1 / (2 : Int32)))))) → P5 v2_1 v3_2) → P5 (8 : Int32) (0 : Int32)
def wp_L_high (vf : Nat → Int32) (x1 : Int32) (post : Int32 → Prop) : Prop :=
  ∀ (P5 : Int32 → Int32 → Prop), (∀ (v2_1 : Int32) (v3_2 : Int32), (((x1 ≤ v3_2) → post v2_1) ∧ ((¬ x1 ≤ v3_2) → vp_in v3_2 7 ∧ (∀ (P24 : Int32 → Prop), (∀ (t_3 : Int32), (P5 t_3 (v3_2 + (1 : Int32))) → P24 t_3) → (((2 : Int32) ≤ (vf (v3_2).toNatClampNeg)) → P24 (v2_1 / (2 : Int32))) ∧ ((¬ (2 : Int32) ≤ (vf (v3_2).toNatClampNeg)) → P24 v2_1)))) → P5 v2_1 v3_2) → P5 (8 : Int32) (0 : Int32)
def wp_L_layers (vf : Nat → Int32) (post : Int32 → Prop) : Prop :=
  vp_in (6 : Int32) 7 ∧ (wp_L_wide vf (vf ((6 : Int32)).toNatClampNeg) (fun r_1 => vp_in (6 : Int32) 7 ∧ (wp_L_high vf (vf ((6 : Int32)).toNatClampNeg) (fun r_2 => ¬ (r_1 * r_2) = 0 ∧ (post ((64 : Int32) / (r_1 * r_2)))))))
def wp_L_where (vf : Nat → Int32) (x1 : Int32) (post : Int32 → Prop) : Prop :=
  ∀ w2_1 : Int32, w2_1 = (x1 - x1 / (8 : Int32) * (8 : Int32)) → ∀ w3_2 : Int32, w3_2 = (x1 / (8 : Int32)) → ∀ (P19 : Int32 → Int32 → Int32 → Int32 → Int32 → Prop), (∀ (v2_3 : Int32) (v3_4 : Int32) (v4_5 : Int32) (v5_6 : Int32) (v6_7 : Int32), (vp_in (6 : Int32) 7 ∧ ((((vf ((6 : Int32)).toNatClampNeg) ≤ v6_7) → post (((v2_3 + ((8 : Int32) * v3_4)) + ((64 : Int32) * v4_5)) + ((4096 : Int32) * v5_6))) ∧ ((¬ (vf ((6 : Int32)).toNatClampNeg) ≤ v6_7) → wp_L_wide vf v6_7 (fun r_8 => wp_L_high vf v6_7 (fun r_9 => ¬ (r_8 * r_9) = 0 ∧ (∀ w9_10 : Int32, w9_10 = ((64 : Int32) / (r_8 * r_9)) → vp_in v6_7 7 ∧ (∀ (P138 : Int32 → Prop), (∀ (t_11 : Int32), (∀ (P160 : Int32 → Prop), (∀ (t_12 : Int32), (∀ (P176 : Int32 → Prop), (∀ (t_13 : Int32), (∀ (P201 : Int32 → Prop), (∀ (t_14 : Int32), (∀ (P225 : Int32 → Prop), (∀ (t_15 : Int32), (vp_in v6_7 7 ∧ (∀ (P243 : Int32 → Prop), (∀ (t_16 : Int32), (vp_in v6_7 7 ∧ (∀ (P262 : Int32 → Prop), (∀ (t_17 : Int32), (P19 t_16 t_17 t_12 t_13 (v6_7 + (1 : Int32))) → P262 t_17) → ((¬ (vf (v6_7).toNatClampNeg) = (2 : Int32)) → P262 t_15) ∧ (((vf (v6_7).toNatClampNeg) = (2 : Int32)) → P262 (t_15 - (r_9 / (2 : Int32)))))) → P243 t_16) → ((¬ (vf (v6_7).toNatClampNeg) = 0) → P243 t_14) ∧ (((vf (v6_7).toNatClampNeg) = 0) → P243 (t_14 - (r_8 / (2 : Int32)))))) → P225 t_15) → ∀ (P224 : Prop), ((P225 v3_4) → P224 ) → ((t_11 = 0) → P224) ∧ ((¬ t_11 = 0) → vp_in v6_7 7 ∧ ((((vf (v6_7).toNatClampNeg) ≤ (1 : Int32)) → P224) ∧ ((¬ (vf (v6_7).toNatClampNeg) ≤ (1 : Int32)) → P225 ((r_9 - (1 : Int32)) - v3_4))))) → P201 t_14) → ∀ (P200 : Prop), ((P201 v2_3) → P200 ) → ((t_11 = 0) → P200) ∧ ((¬ t_11 = 0) → vp_in v6_7 7 ∧ ((((2 : Int32) ≤ (vf (v6_7).toNatClampNeg)) → P200) ∧ ((¬ (2 : Int32) ≤ (vf (v6_7).toNatClampNeg)) → P201 ((r_8 - (1 : Int32)) - v2_3))))) → P176 t_13) → ((t_11 = 0) → P176 v5_6) ∧ ((¬ t_11 = 0) → P176 ((1 : Int32) - v5_6))) → P160 t_12) → ((t_11 = 0) → P160 (w9_10 + v4_5)) ∧ ((¬ t_11 = 0) → P160 ((w9_10 - (1 : Int32)) - v4_5))) → P138 t_11) → ((¬ (vf (v6_7).toNatClampNeg) = 0) → vp_in v6_7 7 ∧ (((¬ (vf (v6_7).toNatClampNeg) = (1 : Int32)) → vp_in v6_7 7 ∧ (((¬ (vf (v6_7).toNatClampNeg) = (2 : Int32)) → ((v3_4 < (r_9 / (2 : Int32))) → P138 (0 : Int32)) ∧ ((¬ v3_4 < (r_9 / (2 : Int32))) → P138 (1 : Int32))) ∧ (((vf (v6_7).toNatClampNeg) = (2 : Int32)) → (((r_9 / (2 : Int32)) ≤ v3_4) → P138 (0 : Int32)) ∧ ((¬ (r_9 / (2 : Int32)) ≤ v3_4) → P138 (1 : Int32))))) ∧ (((vf (v6_7).toNatClampNeg) = (1 : Int32)) → ((v2_3 < (r_8 / (2 : Int32))) → P138 (0 : Int32)) ∧ ((¬ v2_3 < (r_8 / (2 : Int32))) → P138 (1 : Int32))))) ∧ (((vf (v6_7).toNatClampNeg) = 0) → (((r_8 / (2 : Int32)) ≤ v2_3) → P138 (0 : Int32)) ∧ ((¬ (r_8 / (2 : Int32)) ≤ v2_3) → P138 (1 : Int32)))))))))) → P19 v2_3 v3_4 v4_5 v5_6 v6_7) → P19 w2_1 w3_2 (0 : Int32) (0 : Int32) (0 : Int32)
def wp_L_at (vf : Nat → Int32) (x1 : Int32) (x2 : Int32) (x3 : Int32) (post : Int32 → Prop) : Prop :=
  ∀ (P6 : Int32 → Int32 → Prop), (∀ (v4_1 : Int32) (v5_2 : Int32), ((((64 : Int32) ≤ v5_2) → post v4_1) ∧ ((¬ (64 : Int32) ≤ v5_2) → wp_L_where vf v5_2 (fun r_3 => ∀ (P44 : Int32 → Prop), (∀ (t_4 : Int32), (P6 t_4 (v5_2 + (1 : Int32))) → P44 t_4) → ((¬ (r_3 - r_3 / (4096 : Int32) * (4096 : Int32)) = ((x1 + ((8 : Int32) * x2)) + ((64 : Int32) * x3))) → P44 v4_1) ∧ (((r_3 - r_3 / (4096 : Int32) * (4096 : Int32)) = ((x1 + ((8 : Int32) * x2)) + ((64 : Int32) * x3))) → P44 v5_2)))) → P6 v4_1 v5_2) → P6 (-1 : Int32) (0 : Int32)
def wp_L_firstWhole (vf : Nat → Int32) (vh : Nat → Int32) (x2 : Int32) (x3 : Int32) (post : Int32 → Prop) : Prop :=
  ∀ (P3 : Int32 → Prop), (∀ (v4_1 : Int32), (wp_L_layers vf (fun r_2 => ∀ (P32 : Prop), ((post v4_1) → P32 ) → ((r_2 ≤ v4_1) → P32) ∧ ((¬ r_2 ≤ v4_1) → wp_L_at vf x2 x3 v4_1 (fun r_3 => vp_in r_3 64 ∧ (((¬ (vh (r_3).toNatClampNeg) = (1 : Int32)) → P32) ∧ (((vh (r_3).toNatClampNeg) = (1 : Int32)) → P3 (v4_1 + (1 : Int32)))))))) → P3 v4_1) → P3 (0 : Int32)
set_option maxRecDepth 20000 in
theorem kwL_low_9 : Cond.constant RL 9 (2147483647) ∈ wsL_low := by decide +kernel
set_option maxHeartbeats 4000000 in
set_option maxRecDepth 100000 in
theorem c_L_low (l : Launch) (dC : Nat → ClassId) (dI : Nat → Nat → Nat) (cI cC cS : ClassId) (sz : Nat) (x0 : Int32) (x1 : Int32) {post : Int32 → Prop} (hq : wp_L_low x0 x1 post) : Met l yL_low wsL_low ({ frames := 0, cells := 0, slots := 0, locals := 0 } : Room) (gn_Pre (dC, dI) cI cC cS [.int x0, .int x1] sz []) (va_Qi (fun (r : Int32) (u : Unit) => post r) (fun (u : Unit) t => va_P (dC, dI) vwCl [] t.heap ∧ va_K (dC, dI) vwCl (gn_tys cI cC cS) t ∧ va_D (va_A [] sz) []) (va_A [] sz)) 0 0 (va_A [] sz) := by
  unfold wp_L_low at hq
  refine Met.ofW (cc := cL_low) (maxL := 2) (ret := (some .int)) (by decide) rfl ?_
  intro p e s m args below meth c s₁ B hml hv
  obtain ⟨rfl, hsz, hP, hK, hN, hD0⟩ := hv
  have hx := B.exec
  have hb := B.bytes
  have hr := B.returns
  have hts := atoms_spec (ws := wsL_low) B.pre
  have hown : s.vm.findClass RL = some m.cls := findClass_of_methodNamed B.named
  have hlocks := B.notSynchronized
  subst hsz
  have hD := hD0.self (sz := s.heap.size)
  generalize hAe : va_A [] s.heap.size = A at hD ⊢
  have hA : ∀ q : Nat, s.heap.size ≤ q → A q := fun q h => by rw [← hAe]; exact Or.inr h
  have hS : va_S A s.heap s.heap [] := va_S.rf
  have hl := lv_entry ([.int x0, .int x1] : List Value) (n := 2) (Nat.le_of_ble_eq_true rfl)
  rw [lg_entry_eq]
  generalize (lg_sl ([.int x0, .int x1] : List Value) ++ List.replicate (2 - (lg_sl ([.int x0, .int x1] : List Value)).length) Slot.unset).toArray = ls at hl ⊢
  have hl : lv_has ls 2 [(0, .int x0), (1, .int x1)] := hl
  refine gn_Q (hret := fun Q => ∀ (pc : Nat) (ls : Array Slot) (H : Heap) (locs : List Loc) (r : Int32) , decode cL_low pc = .ok (.ireturn, 1) → va_P (dC, dI) vwCl [] H → va_D A [] → va_S A s.heap H locs → post r → W p l e ({ frames := 0, cells := 0, slots := 0, locals := 0 } : Room) s m ([.int x0, .int x1] : List Value).toArray below meth c H locs 0 0 Q (F0 m pc ls [.int r])) (fun Q hret => ?_) ?_
  rotate_left
  · intro pc ls H locs r hdg hP hD hS hpost
    exact W.iret (v := r) hx hb hr (fun t ht hW => ⟨⟨r, (), rfl, hpost, by rw [ht]; exact hP, va_K.moved hW.alike hK, hD⟩, hS.F ht⟩) hS.2.2 hdg
  refine lv_iload_n hx hb dL_low_0 rfl (lv_at hl 0 rfl) ?_
  refine lv_ldc (v := 2147483647) hx hb hown (hts _ kwL_low_9) dL_low_1 ?_
  refine lv_iand hx hb dL_low_3 ?_
  refine lv_iload_n hx hb dL_low_4 rfl (lv_at hl 1 rfl) ?_
  have hz := hq.1
  have hq := hq.2
  refine lv_irem hx hb dL_low_5 hz ?_
  exact hret _ _ _ _ _ dL_low_6 hP hD hS hq
set_option maxHeartbeats 4000000 in
set_option maxRecDepth 100000 in
theorem c_L_wide (l : Launch) (dC : Nat → ClassId) (dI : Nat → Nat → Nat) (cI cC cS : ClassId) (lf : Nat) (sz : Nat) (vf : Nat → Int32) (x1 : Int32) {post : Int32 → Prop} (hq : wp_L_wide vf x1 post) : Met l yL_wide wsL_wide ({ frames := 0, cells := 0, slots := 0, locals := 0 } : Room) (gn_Pre (dC, dI) cI cC cS [.ref lf, .int x1] sz [(lf, .inl (cI, 7, .inl vf))]) (va_Qi (fun (r : Int32) (u : Unit) => post r) (fun (u : Unit) t => va_P (dC, dI) vwCl [(lf, .inl (cI, 7, .inl vf))] t.heap ∧ va_K (dC, dI) vwCl (gn_tys cI cC cS) t ∧ va_D (va_A [(lf, .inl (cI, 7, .inl vf))] sz) [(lf, .inl (cI, 7, .inl vf))]) (va_A [(lf, .inl (cI, 7, .inl vf))] sz)) 0 0 (va_A [(lf, .inl (cI, 7, .inl vf))] sz) := by
  unfold wp_L_wide at hq
  refine Met.ofW (cc := cL_wide) (maxL := 4) (ret := (some .int)) (by decide) rfl ?_
  intro p e s m args below meth c s₁ B hml hv
  obtain ⟨rfl, hsz, hP, hK, hN, hD0⟩ := hv
  have hx := B.exec
  have hb := B.bytes
  have hr := B.returns
  have hts := atoms_spec (ws := wsL_wide) B.pre
  have hown : s.vm.findClass RL = some m.cls := findClass_of_methodNamed B.named
  have hlocks := B.notSynchronized
  subst hsz
  have hD := hD0.self (sz := s.heap.size)
  generalize hAe : va_A [(lf, .inl (cI, 7, .inl vf))] s.heap.size = A at hD ⊢
  have hA : ∀ q : Nat, s.heap.size ≤ q → A q := fun q h => by rw [← hAe]; exact Or.inr h
  have hS : va_S A s.heap s.heap [] := va_S.rf
  have hl := lv_entry ([.ref lf, .int x1] : List Value) (n := 4) (Nat.le_of_ble_eq_true rfl)
  rw [lg_entry_eq]
  generalize (lg_sl ([.ref lf, .int x1] : List Value) ++ List.replicate (4 - (lg_sl ([.ref lf, .int x1] : List Value)).length) Slot.unset).toArray = ls at hl ⊢
  have hl : lv_has ls 4 [(0, .ref lf), (1, .int x1)] := hl
  refine gn_Q (hret := fun Q => ∀ (pc : Nat) (ls : Array Slot) (H : Heap) (locs : List Loc) (r : Int32) , decode cL_wide pc = .ok (.ireturn, 1) → va_P (dC, dI) vwCl [(lf, .inl (cI, 7, .inl vf))] H → va_D A [(lf, .inl (cI, 7, .inl vf))] → va_S A s.heap H locs → post r → W p l e ({ frames := 0, cells := 0, slots := 0, locals := 0 } : Room) s m ([.ref lf, .int x1] : List Value).toArray below meth c H locs 0 0 Q (F0 m pc ls [.int r])) (fun Q hret => ?_) ?_
  rotate_left
  · intro pc ls H locs r hdg hP hD hS hpost
    exact W.iret (v := r) hx hb hr (fun t ht hW => ⟨⟨r, (), rfl, hpost, by rw [ht]; exact hP, va_K.moved hW.alike hK, hD⟩, hS.F ht⟩) hS.2.2 hdg
  refine lv_bipush (v := 8) hx hb dL_wide_0 (by decide) ?_
  refine lv_istore_n (lv' := [(2, .int (8 : Int32)), (0, .ref lf), (1, .int x1)]) hx hb dL_wide_2 rfl hl (by decide) rfl (fun ls hl => ?_)
  refine lv_iconst (v := 0) hx hb dL_wide_3 (by decide) ?_
  refine lv_istore_n (lv' := [(3, .int (0 : Int32)), (2, .int (8 : Int32)), (0, .ref lf), (1, .int x1)]) hx hb dL_wide_4 rfl hl (by decide) rfl (fun ls hl => ?_)
  have hq := hq (fun (v2_1 : Int32) (v3_2 : Int32) => ∀ (H : Heap) (locs : List Loc) (ls : Array Slot), va_P (dC, dI) vwCl [(lf, .inl (cI, 7, .inl vf))] H → va_D A [(lf, .inl (cI, 7, .inl vf))] → va_S A s.heap H locs → lv_has ls 4 [(0, .ref lf), (1, .int x1), (2, .int v2_1), (3, .int v3_2)] → W p l e ({ frames := 0, cells := 0, slots := 0, locals := 0 } : Room) s m ([.ref lf, .int x1] : List Value).toArray below meth c H locs 0 0 Q (F0 m 5 ls [])) (by
    intro v2_1 v3_2 hq H locs ls hP hD hS hl
    refine lv_iload_n hx hb dL_wide_5 rfl (lv_at hl 3 rfl) ?_
    refine lv_iload_n hx hb dL_wide_6 rfl (lv_at hl 1 rfl) ?_
    refine lv_icmp_ge (tgt := 31) hx hb dL_wide_7 (by decide) (fun hc => ?_) (fun hc => ?_)
    · have hq := hq.1 hc
      refine lv_iload_n hx hb dL_wide_31 rfl (lv_at hl 2 rfl) ?_
      exact hret _ _ _ _ _ dL_wide_32 hP hD hS hq
    · have hq := hq.2 hc
      refine lv_aload_n hx hb dL_wide_10 rfl (lv_at hl 0 rfl) ?_
      refine lv_iload_n hx hb dL_wide_11 rfl (lv_at hl 3 rfl) ?_
      have hin := hq.1
      have hq := hq.2
      refine va_iald hx hb hK hP 0 0 rfl rfl hin dL_wide_12 ?_
      refine lv_iconst (v := 2) hx hb dL_wide_13 (by decide) ?_
      have hq := hq (fun (t_3 : Int32) => ∀ (H : Heap) (locs : List Loc) (ls : Array Slot), va_P (dC, dI) vwCl [(lf, .inl (cI, 7, .inl vf))] H → va_D A [(lf, .inl (cI, 7, .inl vf))] → va_S A s.heap H locs → lv_has ls 4 [(0, .ref lf), (1, .int x1), (3, .int v3_2)] → W p l e ({ frames := 0, cells := 0, slots := 0, locals := 0 } : Room) s m ([.ref lf, .int x1] : List Value).toArray below meth c H locs 0 0 Q (F0 m 24 ls [.int t_3])) (by
        intro t_3 hq H locs ls hP hD hS hl
        refine lv_istore_n (lv' := [(2, .int t_3), (0, .ref lf), (1, .int x1), (3, .int v3_2)]) hx hb dL_wide_24 rfl hl (by decide) rfl (fun ls hl => ?_)
        refine lv_iinc (v := (v3_2 + (1 : Int32))) (lv' := [(3, .int (v3_2 + (1 : Int32))), (2, .int t_3), (0, .ref lf), (1, .int x1)]) hx hb dL_wide_25 hl (k := 3) rfl rfl (by decide) rfl (fun ls hl => ?_)
        refine lv_goto (tgt := 5) hx hb dL_wide_28 (by decide) ?_
        exact hq _ _ _ hP hD hS (lv_sub hl [2, 3, 1, 0] rfl))
      refine lv_icmp_ge (tgt := 23) hx hb dL_wide_14 (by decide) (fun hc => ?_) (fun hc => ?_)
      · have hq := hq.1 hc
        refine lv_iload_n hx hb dL_wide_23 rfl (lv_at hl 2 rfl) ?_
        exact hq _ _ _ hP hD hS (lv_sub hl [0, 1, 3] rfl)
      · have hq := hq.2 hc
        refine lv_iload_n hx hb dL_wide_17 rfl (lv_at hl 2 rfl) ?_
        refine lv_iconst (v := 2) hx hb dL_wide_18 (by decide) ?_
        refine lv_idiv hx hb dL_wide_19 (by decide) ?_
        refine lv_goto (tgt := 24) hx hb dL_wide_20 (by decide) ?_
        exact hq _ _ _ hP hD hS (lv_sub hl [0, 1, 3] rfl))
  exact hq _ _ _ hP hD hS (lv_sub hl [2, 3, 1, 0] rfl)
set_option maxHeartbeats 4000000 in
set_option maxRecDepth 100000 in
theorem c_L_high (l : Launch) (dC : Nat → ClassId) (dI : Nat → Nat → Nat) (cI cC cS : ClassId) (lf : Nat) (sz : Nat) (vf : Nat → Int32) (x1 : Int32) {post : Int32 → Prop} (hq : wp_L_high vf x1 post) : Met l yL_high wsL_high ({ frames := 0, cells := 0, slots := 0, locals := 0 } : Room) (gn_Pre (dC, dI) cI cC cS [.ref lf, .int x1] sz [(lf, .inl (cI, 7, .inl vf))]) (va_Qi (fun (r : Int32) (u : Unit) => post r) (fun (u : Unit) t => va_P (dC, dI) vwCl [(lf, .inl (cI, 7, .inl vf))] t.heap ∧ va_K (dC, dI) vwCl (gn_tys cI cC cS) t ∧ va_D (va_A [(lf, .inl (cI, 7, .inl vf))] sz) [(lf, .inl (cI, 7, .inl vf))]) (va_A [(lf, .inl (cI, 7, .inl vf))] sz)) 0 0 (va_A [(lf, .inl (cI, 7, .inl vf))] sz) := by
  unfold wp_L_high at hq
  refine Met.ofW (cc := cL_high) (maxL := 4) (ret := (some .int)) (by decide) rfl ?_
  intro p e s m args below meth c s₁ B hml hv
  obtain ⟨rfl, hsz, hP, hK, hN, hD0⟩ := hv
  have hx := B.exec
  have hb := B.bytes
  have hr := B.returns
  have hts := atoms_spec (ws := wsL_high) B.pre
  have hown : s.vm.findClass RL = some m.cls := findClass_of_methodNamed B.named
  have hlocks := B.notSynchronized
  subst hsz
  have hD := hD0.self (sz := s.heap.size)
  generalize hAe : va_A [(lf, .inl (cI, 7, .inl vf))] s.heap.size = A at hD ⊢
  have hA : ∀ q : Nat, s.heap.size ≤ q → A q := fun q h => by rw [← hAe]; exact Or.inr h
  have hS : va_S A s.heap s.heap [] := va_S.rf
  have hl := lv_entry ([.ref lf, .int x1] : List Value) (n := 4) (Nat.le_of_ble_eq_true rfl)
  rw [lg_entry_eq]
  generalize (lg_sl ([.ref lf, .int x1] : List Value) ++ List.replicate (4 - (lg_sl ([.ref lf, .int x1] : List Value)).length) Slot.unset).toArray = ls at hl ⊢
  have hl : lv_has ls 4 [(0, .ref lf), (1, .int x1)] := hl
  refine gn_Q (hret := fun Q => ∀ (pc : Nat) (ls : Array Slot) (H : Heap) (locs : List Loc) (r : Int32) , decode cL_high pc = .ok (.ireturn, 1) → va_P (dC, dI) vwCl [(lf, .inl (cI, 7, .inl vf))] H → va_D A [(lf, .inl (cI, 7, .inl vf))] → va_S A s.heap H locs → post r → W p l e ({ frames := 0, cells := 0, slots := 0, locals := 0 } : Room) s m ([.ref lf, .int x1] : List Value).toArray below meth c H locs 0 0 Q (F0 m pc ls [.int r])) (fun Q hret => ?_) ?_
  rotate_left
  · intro pc ls H locs r hdg hP hD hS hpost
    exact W.iret (v := r) hx hb hr (fun t ht hW => ⟨⟨r, (), rfl, hpost, by rw [ht]; exact hP, va_K.moved hW.alike hK, hD⟩, hS.F ht⟩) hS.2.2 hdg
  refine lv_bipush (v := 8) hx hb dL_high_0 (by decide) ?_
  refine lv_istore_n (lv' := [(2, .int (8 : Int32)), (0, .ref lf), (1, .int x1)]) hx hb dL_high_2 rfl hl (by decide) rfl (fun ls hl => ?_)
  refine lv_iconst (v := 0) hx hb dL_high_3 (by decide) ?_
  refine lv_istore_n (lv' := [(3, .int (0 : Int32)), (2, .int (8 : Int32)), (0, .ref lf), (1, .int x1)]) hx hb dL_high_4 rfl hl (by decide) rfl (fun ls hl => ?_)
  have hq := hq (fun (v2_1 : Int32) (v3_2 : Int32) => ∀ (H : Heap) (locs : List Loc) (ls : Array Slot), va_P (dC, dI) vwCl [(lf, .inl (cI, 7, .inl vf))] H → va_D A [(lf, .inl (cI, 7, .inl vf))] → va_S A s.heap H locs → lv_has ls 4 [(0, .ref lf), (1, .int x1), (2, .int v2_1), (3, .int v3_2)] → W p l e ({ frames := 0, cells := 0, slots := 0, locals := 0 } : Room) s m ([.ref lf, .int x1] : List Value).toArray below meth c H locs 0 0 Q (F0 m 5 ls [])) (by
    intro v2_1 v3_2 hq H locs ls hP hD hS hl
    refine lv_iload_n hx hb dL_high_5 rfl (lv_at hl 3 rfl) ?_
    refine lv_iload_n hx hb dL_high_6 rfl (lv_at hl 1 rfl) ?_
    refine lv_icmp_ge (tgt := 31) hx hb dL_high_7 (by decide) (fun hc => ?_) (fun hc => ?_)
    · have hq := hq.1 hc
      refine lv_iload_n hx hb dL_high_31 rfl (lv_at hl 2 rfl) ?_
      exact hret _ _ _ _ _ dL_high_32 hP hD hS hq
    · have hq := hq.2 hc
      refine lv_aload_n hx hb dL_high_10 rfl (lv_at hl 0 rfl) ?_
      refine lv_iload_n hx hb dL_high_11 rfl (lv_at hl 3 rfl) ?_
      have hin := hq.1
      have hq := hq.2
      refine va_iald hx hb hK hP 0 0 rfl rfl hin dL_high_12 ?_
      refine lv_iconst (v := 2) hx hb dL_high_13 (by decide) ?_
      have hq := hq (fun (t_3 : Int32) => ∀ (H : Heap) (locs : List Loc) (ls : Array Slot), va_P (dC, dI) vwCl [(lf, .inl (cI, 7, .inl vf))] H → va_D A [(lf, .inl (cI, 7, .inl vf))] → va_S A s.heap H locs → lv_has ls 4 [(0, .ref lf), (1, .int x1), (3, .int v3_2)] → W p l e ({ frames := 0, cells := 0, slots := 0, locals := 0 } : Room) s m ([.ref lf, .int x1] : List Value).toArray below meth c H locs 0 0 Q (F0 m 24 ls [.int t_3])) (by
        intro t_3 hq H locs ls hP hD hS hl
        refine lv_istore_n (lv' := [(2, .int t_3), (0, .ref lf), (1, .int x1), (3, .int v3_2)]) hx hb dL_high_24 rfl hl (by decide) rfl (fun ls hl => ?_)
        refine lv_iinc (v := (v3_2 + (1 : Int32))) (lv' := [(3, .int (v3_2 + (1 : Int32))), (2, .int t_3), (0, .ref lf), (1, .int x1)]) hx hb dL_high_25 hl (k := 3) rfl rfl (by decide) rfl (fun ls hl => ?_)
        refine lv_goto (tgt := 5) hx hb dL_high_28 (by decide) ?_
        exact hq _ _ _ hP hD hS (lv_sub hl [2, 3, 1, 0] rfl))
      refine lv_icmp_ge (tgt := 21) hx hb dL_high_14 (by decide) (fun hc => ?_) (fun hc => ?_)
      · have hq := hq.1 hc
        refine lv_iload_n hx hb dL_high_21 rfl (lv_at hl 2 rfl) ?_
        refine lv_iconst (v := 2) hx hb dL_high_22 (by decide) ?_
        refine lv_idiv hx hb dL_high_23 (by decide) ?_
        exact hq _ _ _ hP hD hS (lv_sub hl [0, 1, 3] rfl)
      · have hq := hq.2 hc
        refine lv_iload_n hx hb dL_high_17 rfl (lv_at hl 2 rfl) ?_
        refine lv_goto (tgt := 24) hx hb dL_high_18 (by decide) ?_
        exact hq _ _ _ hP hD hS (lv_sub hl [0, 1, 3] rfl))
  exact hq _ _ _ hP hD hS (lv_sub hl [2, 3, 1, 0] rfl)
set_option maxHeartbeats 4000000 in
set_option maxRecDepth 100000 in
theorem c_L_layers (l : Launch) (dC : Nat → ClassId) (dI : Nat → Nat → Nat) (cI cC cS : ClassId) (lf : Nat) (sz : Nat) (vf : Nat → Int32) {post : Int32 → Prop} (hq : wp_L_layers vf post) : Met l yL_layers wsL_layers ({ frames := 1, cells := 0, slots := 0, locals := 23 } : Room) (gn_Pre (dC, dI) cI cC cS [.ref lf] sz [(lf, .inl (cI, 7, .inl vf))]) (va_Qi (fun (r : Int32) (u : Unit) => post r) (fun (u : Unit) t => va_P (dC, dI) vwCl [(lf, .inl (cI, 7, .inl vf))] t.heap ∧ va_K (dC, dI) vwCl (gn_tys cI cC cS) t ∧ va_D (va_A [(lf, .inl (cI, 7, .inl vf))] sz) [(lf, .inl (cI, 7, .inl vf))]) (va_A [(lf, .inl (cI, 7, .inl vf))] sz)) 0 0 (va_A [(lf, .inl (cI, 7, .inl vf))] sz) := by
  unfold wp_L_layers at hq
  refine Met.ofW (cc := cL_layers) (maxL := 1) (ret := (some .int)) (by decide) rfl ?_
  intro p e s m args below meth c s₁ B hml hv
  obtain ⟨rfl, hsz, hP, hK, hN, hD0⟩ := hv
  have hx := B.exec
  have hb := B.bytes
  have hr := B.returns
  have hts := atoms_spec (ws := wsL_layers) B.pre
  have hown : s.vm.findClass RL = some m.cls := findClass_of_methodNamed B.named
  have hlocks := B.notSynchronized
  subst hsz
  have hD := hD0.self (sz := s.heap.size)
  generalize hAe : va_A [(lf, .inl (cI, 7, .inl vf))] s.heap.size = A at hD ⊢
  have hA : ∀ q : Nat, s.heap.size ≤ q → A q := fun q h => by rw [← hAe]; exact Or.inr h
  have hS : va_S A s.heap s.heap [] := va_S.rf
  have hl := lv_entry ([.ref lf] : List Value) (n := 1) (Nat.le_of_ble_eq_true rfl)
  rw [lg_entry_eq]
  generalize (lg_sl ([.ref lf] : List Value) ++ List.replicate (1 - (lg_sl ([.ref lf] : List Value)).length) Slot.unset).toArray = ls at hl ⊢
  have hl : lv_has ls 1 [(0, .ref lf)] := hl
  refine gn_Q (hret := fun Q => ∀ (pc : Nat) (ls : Array Slot) (H : Heap) (locs : List Loc) (r : Int32) , decode cL_layers pc = .ok (.ireturn, 1) → va_P (dC, dI) vwCl [(lf, .inl (cI, 7, .inl vf))] H → va_D A [(lf, .inl (cI, 7, .inl vf))] → va_S A s.heap H locs → post r → W p l e ({ frames := 1, cells := 0, slots := 0, locals := 23 } : Room) s m ([.ref lf] : List Value).toArray below meth c H locs 0 0 Q (F0 m pc ls [.int r])) (fun Q hret => ?_) ?_
  rotate_left
  · intro pc ls H locs r hdg hP hD hS hpost
    exact W.iret (v := r) hx hb hr (fun t ht hW => ⟨⟨r, (), rfl, hpost, by rw [ht]; exact hP, va_K.moved hW.alike hK, hD⟩, hS.F ht⟩) hS.2.2 hdg
  refine lv_bipush (v := 64) hx hb dL_layers_0 (by decide) ?_
  refine lv_aload_n hx hb dL_layers_2 rfl (lv_at hl 0 rfl) ?_
  refine lv_aload_n hx hb dL_layers_3 rfl (lv_at hl 0 rfl) ?_
  refine lv_bipush (v := 6) hx hb dL_layers_4 (by decide) ?_
  have hin := hq.1
  have hq := hq.2
  refine va_iald hx hb hK hP 0 0 rfl rfl hin dL_layers_6 ?_
  have hPc := hP.sub (ws' := [(lf, .inl (cI, 7, .inl vf))]) [0] rfl
  have hDc := hD.sub (ws' := [(lf, .inl (cI, 7, .inl vf))]) [0] (by decide) rfl
  have hFc := va_free (wc := [(lf, .inl (cI, 7, .inl vf))]) hD hS hA [0] rfl
  refine va_calli (va_runS (As := [.ref lf, .int (vf ((6 : Int32)).toNatClampNeg)]) (rest := [.int (64 : Int32)]) ⟨hx, hb, hml, hown, hts⟩ (c_L_wide l dC dI cI cC cS lf _ vf (vf ((6 : Int32)).toNatClampNeg) hq) (va_cwS 2 hts gL_layers_L_wide rfl rfl rfl (by decide +kernel) ⟨Nat.le_of_ble_eq_true rfl, Nat.le_of_ble_eq_true rfl⟩) (gn_preS hPc hK hN hDc) rfl rfl hl.1 rfl (lv_room (Nat.le_of_ble_eq_true rfl)) dL_layers_7 ⟨Nat.zero_le _, Nat.zero_le _⟩) hS (fun q _ h => hFc q h) hFc (fun r_1 u t H1 locs ht hvm hq hB hz1 hk1 hS => ?_)
  obtain ⟨hP1, hK1, hD1⟩ := hB
  rw [ht] at hP1
  try dsimp only at hq
  have hP := gn_ro (wc := [(lf, .inl (cI, 7, .inl vf))]) hP hD [0] rfl hk1 hP1
  generalize H1 = H at hP hS ⊢
  refine lv_aload_n hx hb dL_layers_10 rfl (lv_at hl 0 rfl) ?_
  refine lv_aload_n hx hb dL_layers_11 rfl (lv_at hl 0 rfl) ?_
  refine lv_bipush (v := 6) hx hb dL_layers_12 (by decide) ?_
  have hin := hq.1
  have hq := hq.2
  refine va_iald hx hb hK hP 0 0 rfl rfl hin dL_layers_14 ?_
  have hPc := hP.sub (ws' := [(lf, .inl (cI, 7, .inl vf))]) [0] rfl
  have hDc := hD.sub (ws' := [(lf, .inl (cI, 7, .inl vf))]) [0] (by decide) rfl
  have hFc := va_free (wc := [(lf, .inl (cI, 7, .inl vf))]) hD hS hA [0] rfl
  refine va_calli (va_runS (As := [.ref lf, .int (vf ((6 : Int32)).toNatClampNeg)]) (rest := [.int r_1, .int (64 : Int32)]) ⟨hx, hb, hml, hown, hts⟩ (c_L_high l dC dI cI cC cS lf _ vf (vf ((6 : Int32)).toNatClampNeg) hq) (va_cwS 2 hts gL_layers_L_high rfl rfl rfl (by decide +kernel) ⟨Nat.le_of_ble_eq_true rfl, Nat.le_of_ble_eq_true rfl⟩) (gn_preS hPc hK hN hDc) rfl rfl hl.1 rfl (lv_room (Nat.le_of_ble_eq_true rfl)) dL_layers_15 ⟨Nat.zero_le _, Nat.zero_le _⟩) hS (fun q _ h => hFc q h) hFc (fun r_2 u t H1 locs ht hvm hq hB hz1 hk1 hS => ?_)
  obtain ⟨hP1, hK1, hD1⟩ := hB
  rw [ht] at hP1
  try dsimp only at hq
  have hP := gn_ro (wc := [(lf, .inl (cI, 7, .inl vf))]) hP hD [0] rfl hk1 hP1
  generalize H1 = H at hP hS ⊢
  refine lv_imul hx hb dL_layers_18 ?_
  have hz := hq.1
  have hq := hq.2
  refine lv_idiv hx hb dL_layers_19 hz ?_
  exact hret _ _ _ _ _ dL_layers_20 hP hD hS hq
set_option maxHeartbeats 4000000 in
set_option maxRecDepth 100000 in
theorem c_L_where (l : Launch) (dC : Nat → ClassId) (dI : Nat → Nat → Nat) (cI cC cS : ClassId) (lf : Nat) (sz : Nat) (vf : Nat → Int32) (x1 : Int32) {post : Int32 → Prop} (hq : wp_L_where vf x1 post) : Met l yL_where wsL_where ({ frames := 1, cells := 0, slots := 0, locals := 23 } : Room) (gn_Pre (dC, dI) cI cC cS [.ref lf, .int x1] sz [(lf, .inl (cI, 7, .inl vf))]) (va_Qi (fun (r : Int32) (u : Unit) => post r) (fun (u : Unit) t => va_P (dC, dI) vwCl [(lf, .inl (cI, 7, .inl vf))] t.heap ∧ va_K (dC, dI) vwCl (gn_tys cI cC cS) t ∧ va_D (va_A [(lf, .inl (cI, 7, .inl vf))] sz) [(lf, .inl (cI, 7, .inl vf))]) (va_A [(lf, .inl (cI, 7, .inl vf))] sz)) 0 0 (va_A [(lf, .inl (cI, 7, .inl vf))] sz) := by
  unfold wp_L_where at hq
  refine Met.ofW (cc := cL_where) (maxL := 11) (ret := (some .int)) (by decide) rfl ?_
  intro p e s m args below meth c s₁ B hml hv
  obtain ⟨rfl, hsz, hP, hK, hN, hD0⟩ := hv
  have hx := B.exec
  have hb := B.bytes
  have hr := B.returns
  have hts := atoms_spec (ws := wsL_where) B.pre
  have hown : s.vm.findClass RL = some m.cls := findClass_of_methodNamed B.named
  have hlocks := B.notSynchronized
  subst hsz
  have hD := hD0.self (sz := s.heap.size)
  generalize hAe : va_A [(lf, .inl (cI, 7, .inl vf))] s.heap.size = A at hD ⊢
  have hA : ∀ q : Nat, s.heap.size ≤ q → A q := fun q h => by rw [← hAe]; exact Or.inr h
  have hS : va_S A s.heap s.heap [] := va_S.rf
  have hl := lv_entry ([.ref lf, .int x1] : List Value) (n := 11) (Nat.le_of_ble_eq_true rfl)
  rw [lg_entry_eq]
  generalize (lg_sl ([.ref lf, .int x1] : List Value) ++ List.replicate (11 - (lg_sl ([.ref lf, .int x1] : List Value)).length) Slot.unset).toArray = ls at hl ⊢
  have hl : lv_has ls 11 [(0, .ref lf), (1, .int x1)] := hl
  refine gn_Q (hret := fun Q => ∀ (pc : Nat) (ls : Array Slot) (H : Heap) (locs : List Loc) (r : Int32) , decode cL_where pc = .ok (.ireturn, 1) → va_P (dC, dI) vwCl [(lf, .inl (cI, 7, .inl vf))] H → va_D A [(lf, .inl (cI, 7, .inl vf))] → va_S A s.heap H locs → post r → W p l e ({ frames := 1, cells := 0, slots := 0, locals := 23 } : Room) s m ([.ref lf, .int x1] : List Value).toArray below meth c H locs 0 0 Q (F0 m pc ls [.int r])) (fun Q hret => ?_) ?_
  rotate_left
  · intro pc ls H locs r hdg hP hD hS hpost
    exact W.iret (v := r) hx hb hr (fun t ht hW => ⟨⟨r, (), rfl, hpost, by rw [ht]; exact hP, va_K.moved hW.alike hK, hD⟩, hS.F ht⟩) hS.2.2 hdg
  refine lv_iload_n hx hb dL_where_0 rfl (lv_at hl 1 rfl) ?_
  refine lv_bipush (v := 8) hx hb dL_where_1 (by decide) ?_
  refine lv_irem hx hb dL_where_3 (by decide) ?_
  refine lv_topi (fun w2_1 ew2_1 => ?_)
  have hq := hq w2_1 ew2_1
  refine lv_istore_n (lv' := [(2, .int w2_1), (0, .ref lf), (1, .int x1)]) hx hb dL_where_4 rfl hl (by decide) rfl (fun ls hl => ?_)
  refine lv_iload_n hx hb dL_where_5 rfl (lv_at hl 2 rfl) ?_
  refine lv_bipush (v := 8) hx hb dL_where_6 (by decide) ?_
  refine lv_idiv hx hb dL_where_8 (by decide) ?_
  refine lv_topi (fun w3_2 ew3_2 => ?_)
  have hq := hq w3_2 ew3_2
  refine lv_istore_n (lv' := [(3, .int w3_2), (2, .int w2_1), (0, .ref lf), (1, .int x1)]) hx hb dL_where_9 rfl hl (by decide) rfl (fun ls hl => ?_)
  refine lv_iconst (v := 0) hx hb dL_where_10 (by decide) ?_
  refine lv_istore (lv' := [(4, .int (0 : Int32)), (3, .int w3_2), (2, .int w2_1), (0, .ref lf), (1, .int x1)]) hx hb dL_where_11 hl (by decide) rfl (fun ls hl => ?_)
  refine lv_iconst (v := 0) hx hb dL_where_13 (by decide) ?_
  refine lv_istore (lv' := [(5, .int (0 : Int32)), (4, .int (0 : Int32)), (3, .int w3_2), (2, .int w2_1), (0, .ref lf), (1, .int x1)]) hx hb dL_where_14 hl (by decide) rfl (fun ls hl => ?_)
  refine lv_iconst (v := 0) hx hb dL_where_16 (by decide) ?_
  refine lv_istore (lv' := [(6, .int (0 : Int32)), (5, .int (0 : Int32)), (4, .int (0 : Int32)), (3, .int w3_2), (2, .int w2_1), (0, .ref lf), (1, .int x1)]) hx hb dL_where_17 hl (by decide) rfl (fun ls hl => ?_)
  have hq := hq (fun (v2_3 : Int32) (v3_4 : Int32) (v4_5 : Int32) (v5_6 : Int32) (v6_7 : Int32) => ∀ (H : Heap) (locs : List Loc) (ls : Array Slot), va_P (dC, dI) vwCl [(lf, .inl (cI, 7, .inl vf))] H → va_D A [(lf, .inl (cI, 7, .inl vf))] → va_S A s.heap H locs → lv_has ls 11 [(0, .ref lf), (2, .int v2_3), (3, .int v3_4), (4, .int v4_5), (5, .int v5_6), (6, .int v6_7)] → W p l e ({ frames := 1, cells := 0, slots := 0, locals := 23 } : Room) s m ([.ref lf, .int x1] : List Value).toArray below meth c H locs 0 0 Q (F0 m 19 ls [])) (by
    intro v2_3 v3_4 v4_5 v5_6 v6_7 hq H locs ls hP hD hS hl
    refine lv_iload hx hb dL_where_19 (lv_at hl 5 rfl) ?_
    refine lv_aload_n hx hb dL_where_21 rfl (lv_at hl 0 rfl) ?_
    refine lv_bipush (v := 6) hx hb dL_where_22 (by decide) ?_
    have hin := hq.1
    have hq := hq.2
    refine va_iald hx hb hK hP 0 0 rfl rfl hin dL_where_24 ?_
    refine lv_icmp_ge (tgt := 269) hx hb dL_where_25 (by decide) (fun hc => ?_) (fun hc => ?_)
    · have hq := hq.1 hc
      refine lv_iload_n hx hb dL_where_269 rfl (lv_at hl 1 rfl) ?_
      refine lv_bipush (v := 8) hx hb dL_where_270 (by decide) ?_
      refine lv_iload_n hx hb dL_where_272 rfl (lv_at hl 2 rfl) ?_
      refine lv_imul hx hb dL_where_273 ?_
      refine lv_iadd hx hb dL_where_274 ?_
      refine lv_bipush (v := 64) hx hb dL_where_275 (by decide) ?_
      refine lv_iload hx hb dL_where_277 (lv_at hl 3 rfl) ?_
      refine lv_imul hx hb dL_where_279 ?_
      refine lv_iadd hx hb dL_where_280 ?_
      refine lv_sipush (v := 4096) hx hb dL_where_281 (by decide) ?_
      refine lv_iload hx hb dL_where_284 (lv_at hl 4 rfl) ?_
      refine lv_imul hx hb dL_where_286 ?_
      refine lv_iadd hx hb dL_where_287 ?_
      exact hret _ _ _ _ _ dL_where_288 hP hD hS hq
    · have hq := hq.2 hc
      refine lv_aload_n hx hb dL_where_28 rfl (lv_at hl 0 rfl) ?_
      refine lv_iload hx hb dL_where_29 (lv_at hl 5 rfl) ?_
      have hPc := hP.sub (ws' := [(lf, .inl (cI, 7, .inl vf))]) [0] rfl
      have hDc := hD.sub (ws' := [(lf, .inl (cI, 7, .inl vf))]) [0] (by decide) rfl
      have hFc := va_free (wc := [(lf, .inl (cI, 7, .inl vf))]) hD hS hA [0] rfl
      refine va_calli (va_runS (As := [.ref lf, .int v6_7]) (rest := []) ⟨hx, hb, hml, hown, hts⟩ (c_L_wide l dC dI cI cC cS lf _ vf v6_7 hq) (va_cwS 2 hts gL_where_L_wide rfl rfl rfl (by decide +kernel) ⟨Nat.le_of_ble_eq_true rfl, Nat.le_of_ble_eq_true rfl⟩) (gn_preS hPc hK hN hDc) rfl rfl hl.1 rfl (lv_room (Nat.le_of_ble_eq_true rfl)) dL_where_31 ⟨Nat.zero_le _, Nat.zero_le _⟩) hS (fun q _ h => hFc q h) hFc (fun r_8 u t H1 locs ht hvm hq hB hz1 hk1 hS => ?_)
      obtain ⟨hP1, hK1, hD1⟩ := hB
      rw [ht] at hP1
      try dsimp only at hq
      have hP := gn_ro (wc := [(lf, .inl (cI, 7, .inl vf))]) hP hD [0] rfl hk1 hP1
      generalize H1 = H at hP hS ⊢
      refine lv_istore (lv' := [(7, .int r_8), (0, .ref lf), (2, .int v2_3), (3, .int v3_4), (4, .int v4_5), (5, .int v5_6), (6, .int v6_7)]) hx hb dL_where_34 hl (by decide) rfl (fun ls hl => ?_)
      refine lv_aload_n hx hb dL_where_36 rfl (lv_at hl 1 rfl) ?_
      refine lv_iload hx hb dL_where_37 (lv_at hl 6 rfl) ?_
      have hPc := hP.sub (ws' := [(lf, .inl (cI, 7, .inl vf))]) [0] rfl
      have hDc := hD.sub (ws' := [(lf, .inl (cI, 7, .inl vf))]) [0] (by decide) rfl
      have hFc := va_free (wc := [(lf, .inl (cI, 7, .inl vf))]) hD hS hA [0] rfl
      refine va_calli (va_runS (As := [.ref lf, .int v6_7]) (rest := []) ⟨hx, hb, hml, hown, hts⟩ (c_L_high l dC dI cI cC cS lf _ vf v6_7 hq) (va_cwS 2 hts gL_where_L_high rfl rfl rfl (by decide +kernel) ⟨Nat.le_of_ble_eq_true rfl, Nat.le_of_ble_eq_true rfl⟩) (gn_preS hPc hK hN hDc) rfl rfl hl.1 rfl (lv_room (Nat.le_of_ble_eq_true rfl)) dL_where_39 ⟨Nat.zero_le _, Nat.zero_le _⟩) hS (fun q _ h => hFc q h) hFc (fun r_9 u t H1 locs ht hvm hq hB hz1 hk1 hS => ?_)
      obtain ⟨hP1, hK1, hD1⟩ := hB
      rw [ht] at hP1
      try dsimp only at hq
      have hP := gn_ro (wc := [(lf, .inl (cI, 7, .inl vf))]) hP hD [0] rfl hk1 hP1
      generalize H1 = H at hP hS ⊢
      refine lv_istore (lv' := [(8, .int r_9), (7, .int r_8), (0, .ref lf), (2, .int v2_3), (3, .int v3_4), (4, .int v4_5), (5, .int v5_6), (6, .int v6_7)]) hx hb dL_where_42 hl (by decide) rfl (fun ls hl => ?_)
      refine lv_bipush (v := 64) hx hb dL_where_44 (by decide) ?_
      refine lv_iload hx hb dL_where_46 (lv_at hl 1 rfl) ?_
      refine lv_iload hx hb dL_where_48 (lv_at hl 0 rfl) ?_
      refine lv_imul hx hb dL_where_50 ?_
      have hz := hq.1
      have hq := hq.2
      refine lv_idiv hx hb dL_where_51 hz ?_
      refine lv_topi (fun w9_10 ew9_10 => ?_)
      have hq := hq w9_10 ew9_10
      refine lv_istore (lv' := [(9, .int w9_10), (8, .int r_9), (7, .int r_8), (0, .ref lf), (2, .int v2_3), (3, .int v3_4), (4, .int v4_5), (5, .int v5_6), (6, .int v6_7)]) hx hb dL_where_52 hl (by decide) rfl (fun ls hl => ?_)
      refine lv_aload_n hx hb dL_where_54 rfl (lv_at hl 3 rfl) ?_
      refine lv_iload hx hb dL_where_55 (lv_at hl 8 rfl) ?_
      have hin := hq.1
      have hq := hq.2
      refine va_iald hx hb hK hP 0 0 rfl rfl hin dL_where_57 ?_
      have hq := hq (fun (t_11 : Int32) => ∀ (H : Heap) (locs : List Loc) (ls : Array Slot), va_P (dC, dI) vwCl [(lf, .inl (cI, 7, .inl vf))] H → va_D A [(lf, .inl (cI, 7, .inl vf))] → va_S A s.heap H locs → lv_has ls 11 [(0, .ref lf), (2, .int v2_3), (3, .int v3_4), (4, .int v4_5), (5, .int v5_6), (6, .int v6_7), (7, .int r_8), (8, .int r_9), (9, .int w9_10)] → W p l e ({ frames := 1, cells := 0, slots := 0, locals := 23 } : Room) s m ([.ref lf, .int x1] : List Value).toArray below meth c H locs 0 0 Q (F0 m 138 ls [.int t_11])) (by
        intro t_11 hq H locs ls hP hD hS hl
        refine lv_istore (lv' := [(10, .int t_11), (0, .ref lf), (2, .int v2_3), (3, .int v3_4), (4, .int v4_5), (5, .int v5_6), (6, .int v6_7), (7, .int r_8), (8, .int r_9), (9, .int w9_10)]) hx hb dL_where_138 hl (by decide) rfl (fun ls hl => ?_)
        refine lv_iload hx hb dL_where_140 (lv_at hl 0 rfl) ?_
        have hq := hq (fun (t_12 : Int32) => ∀ (H : Heap) (locs : List Loc) (ls : Array Slot), va_P (dC, dI) vwCl [(lf, .inl (cI, 7, .inl vf))] H → va_D A [(lf, .inl (cI, 7, .inl vf))] → va_S A s.heap H locs → lv_has ls 11 [(0, .ref lf), (2, .int v2_3), (3, .int v3_4), (5, .int v5_6), (6, .int v6_7), (7, .int r_8), (8, .int r_9), (10, .int t_11)] → W p l e ({ frames := 1, cells := 0, slots := 0, locals := 23 } : Room) s m ([.ref lf, .int x1] : List Value).toArray below meth c H locs 0 0 Q (F0 m 160 ls [.int t_12])) (by
          intro t_12 hq H locs ls hP hD hS hl
          refine lv_istore (lv' := [(4, .int t_12), (0, .ref lf), (2, .int v2_3), (3, .int v3_4), (5, .int v5_6), (6, .int v6_7), (7, .int r_8), (8, .int r_9), (10, .int t_11)]) hx hb dL_where_160 hl (by decide) rfl (fun ls hl => ?_)
          refine lv_iload hx hb dL_where_162 (lv_at hl 8 rfl) ?_
          have hq := hq (fun (t_13 : Int32) => ∀ (H : Heap) (locs : List Loc) (ls : Array Slot), va_P (dC, dI) vwCl [(lf, .inl (cI, 7, .inl vf))] H → va_D A [(lf, .inl (cI, 7, .inl vf))] → va_S A s.heap H locs → lv_has ls 11 [(0, .ref lf), (2, .int v2_3), (3, .int v3_4), (4, .int t_12), (6, .int v6_7), (7, .int r_8), (8, .int r_9), (10, .int t_11)] → W p l e ({ frames := 1, cells := 0, slots := 0, locals := 23 } : Room) s m ([.ref lf, .int x1] : List Value).toArray below meth c H locs 0 0 Q (F0 m 176 ls [.int t_13])) (by
            intro t_13 hq H locs ls hP hD hS hl
            refine lv_istore (lv' := [(5, .int t_13), (0, .ref lf), (2, .int v2_3), (3, .int v3_4), (4, .int t_12), (6, .int v6_7), (7, .int r_8), (8, .int r_9), (10, .int t_11)]) hx hb dL_where_176 hl (by decide) rfl (fun ls hl => ?_)
            refine lv_iload hx hb dL_where_178 (lv_at hl 8 rfl) ?_
            have hq := hq (fun (t_14 : Int32) => ∀ (H : Heap) (locs : List Loc) (ls : Array Slot), va_P (dC, dI) vwCl [(lf, .inl (cI, 7, .inl vf))] H → va_D A [(lf, .inl (cI, 7, .inl vf))] → va_S A s.heap H locs → lv_has ls 11 [(0, .ref lf), (3, .int v3_4), (4, .int t_12), (5, .int t_13), (6, .int v6_7), (7, .int r_8), (8, .int r_9), (10, .int t_11)] → W p l e ({ frames := 1, cells := 0, slots := 0, locals := 23 } : Room) s m ([.ref lf, .int x1] : List Value).toArray below meth c H locs 0 0 Q (F0 m 201 ls [.int t_14])) (by
              intro t_14 hq H locs ls hP hD hS hl
              refine lv_istore_n (lv' := [(2, .int t_14), (0, .ref lf), (3, .int v3_4), (4, .int t_12), (5, .int t_13), (6, .int v6_7), (7, .int r_8), (8, .int r_9), (10, .int t_11)]) hx hb dL_where_201 rfl hl (by decide) rfl (fun ls hl => ?_)
              refine lv_iload hx hb dL_where_202 (lv_at hl 8 rfl) ?_
              have hq := hq (fun (t_15 : Int32) => ∀ (H : Heap) (locs : List Loc) (ls : Array Slot), va_P (dC, dI) vwCl [(lf, .inl (cI, 7, .inl vf))] H → va_D A [(lf, .inl (cI, 7, .inl vf))] → va_S A s.heap H locs → lv_has ls 11 [(0, .ref lf), (2, .int t_14), (4, .int t_12), (5, .int t_13), (6, .int v6_7), (7, .int r_8), (8, .int r_9)] → W p l e ({ frames := 1, cells := 0, slots := 0, locals := 23 } : Room) s m ([.ref lf, .int x1] : List Value).toArray below meth c H locs 0 0 Q (F0 m 225 ls [.int t_15])) (by
                intro t_15 hq H locs ls hP hD hS hl
                refine lv_istore_n (lv' := [(3, .int t_15), (0, .ref lf), (2, .int t_14), (4, .int t_12), (5, .int t_13), (6, .int v6_7), (7, .int r_8), (8, .int r_9)]) hx hb dL_where_225 rfl hl (by decide) rfl (fun ls hl => ?_)
                refine lv_aload_n hx hb dL_where_226 rfl (lv_at hl 1 rfl) ?_
                refine lv_iload hx hb dL_where_227 (lv_at hl 5 rfl) ?_
                have hin := hq.1
                have hq := hq.2
                refine va_iald hx hb hK hP 0 0 rfl rfl hin dL_where_229 ?_
                have hq := hq (fun (t_16 : Int32) => ∀ (H : Heap) (locs : List Loc) (ls : Array Slot), va_P (dC, dI) vwCl [(lf, .inl (cI, 7, .inl vf))] H → va_D A [(lf, .inl (cI, 7, .inl vf))] → va_S A s.heap H locs → lv_has ls 11 [(0, .ref lf), (3, .int t_15), (4, .int t_12), (5, .int t_13), (6, .int v6_7), (8, .int r_9)] → W p l e ({ frames := 1, cells := 0, slots := 0, locals := 23 } : Room) s m ([.ref lf, .int x1] : List Value).toArray below meth c H locs 0 0 Q (F0 m 243 ls [.int t_16])) (by
                  intro t_16 hq H locs ls hP hD hS hl
                  refine lv_istore_n (lv' := [(2, .int t_16), (0, .ref lf), (3, .int t_15), (4, .int t_12), (5, .int t_13), (6, .int v6_7), (8, .int r_9)]) hx hb dL_where_243 rfl hl (by decide) rfl (fun ls hl => ?_)
                  refine lv_aload_n hx hb dL_where_244 rfl (lv_at hl 1 rfl) ?_
                  refine lv_iload hx hb dL_where_245 (lv_at hl 5 rfl) ?_
                  have hin := hq.1
                  have hq := hq.2
                  refine va_iald hx hb hK hP 0 0 rfl rfl hin dL_where_247 ?_
                  refine lv_iconst (v := 2) hx hb dL_where_248 (by decide) ?_
                  have hq := hq (fun (t_17 : Int32) => ∀ (H : Heap) (locs : List Loc) (ls : Array Slot), va_P (dC, dI) vwCl [(lf, .inl (cI, 7, .inl vf))] H → va_D A [(lf, .inl (cI, 7, .inl vf))] → va_S A s.heap H locs → lv_has ls 11 [(0, .ref lf), (2, .int t_16), (4, .int t_12), (5, .int t_13), (6, .int v6_7)] → W p l e ({ frames := 1, cells := 0, slots := 0, locals := 23 } : Room) s m ([.ref lf, .int x1] : List Value).toArray below meth c H locs 0 0 Q (F0 m 262 ls [.int t_17])) (by
                    intro t_17 hq H locs ls hP hD hS hl
                    refine lv_istore_n (lv' := [(3, .int t_17), (0, .ref lf), (2, .int t_16), (4, .int t_12), (5, .int t_13), (6, .int v6_7)]) hx hb dL_where_262 rfl hl (by decide) rfl (fun ls hl => ?_)
                    refine lv_iinc (v := (v6_7 + (1 : Int32))) (lv' := [(6, .int (v6_7 + (1 : Int32))), (3, .int t_17), (0, .ref lf), (2, .int t_16), (4, .int t_12), (5, .int t_13)]) hx hb dL_where_263 hl (k := 5) rfl rfl (by decide) rfl (fun ls hl => ?_)
                    refine lv_goto (tgt := 19) hx hb dL_where_266 (by decide) ?_
                    exact hq _ _ _ hP hD hS (lv_sub hl [2, 3, 1, 4, 5, 0] rfl))
                  refine lv_icmp_ne (tgt := 261) hx hb dL_where_249 (by decide) (fun hc => ?_) (fun hc => ?_)
                  · have hq := hq.1 hc
                    refine lv_iload_n hx hb dL_where_261 rfl (lv_at hl 2 rfl) ?_
                    exact hq _ _ _ hP hD hS (lv_sub hl [1, 0, 3, 4, 5] rfl)
                  · have hq := hq.2 hc
                    refine lv_iload_n hx hb dL_where_252 rfl (lv_at hl 2 rfl) ?_
                    refine lv_iload hx hb dL_where_253 (lv_at hl 6 rfl) ?_
                    refine lv_iconst (v := 2) hx hb dL_where_255 (by decide) ?_
                    refine lv_idiv hx hb dL_where_256 (by decide) ?_
                    refine lv_isub hx hb dL_where_257 ?_
                    refine lv_goto (tgt := 262) hx hb dL_where_258 (by decide) ?_
                    exact hq _ _ _ hP hD hS (lv_sub hl [1, 0, 3, 4, 5] rfl))
                refine lv_if_ne (tgt := 242) hx hb dL_where_230 (by decide) (fun hc => ?_) (fun hc => ?_)
                · have hq := hq.1 hc
                  refine lv_iload_n hx hb dL_where_242 rfl (lv_at hl 2 rfl) ?_
                  exact hq _ _ _ hP hD hS (lv_sub hl [1, 0, 3, 4, 5, 7] rfl)
                · have hq := hq.2 hc
                  refine lv_iload_n hx hb dL_where_233 rfl (lv_at hl 2 rfl) ?_
                  refine lv_iload hx hb dL_where_234 (lv_at hl 6 rfl) ?_
                  refine lv_iconst (v := 2) hx hb dL_where_236 (by decide) ?_
                  refine lv_idiv hx hb dL_where_237 (by decide) ?_
                  refine lv_isub hx hb dL_where_238 ?_
                  refine lv_goto (tgt := 243) hx hb dL_where_239 (by decide) ?_
                  exact hq _ _ _ hP hD hS (lv_sub hl [1, 0, 3, 4, 5, 7] rfl))
              have hq := hq (∀ (H : Heap) (locs : List Loc) (ls : Array Slot), va_P (dC, dI) vwCl [(lf, .inl (cI, 7, .inl vf))] H → va_D A [(lf, .inl (cI, 7, .inl vf))] → va_S A s.heap H locs → lv_has ls 11 [(0, .ref lf), (2, .int t_14), (3, .int v3_4), (4, .int t_12), (5, .int t_13), (6, .int v6_7), (7, .int r_8), (8, .int r_9)] → W p l e ({ frames := 1, cells := 0, slots := 0, locals := 23 } : Room) s m ([.ref lf, .int x1] : List Value).toArray below meth c H locs 0 0 Q (F0 m 224 ls [])) (by
                intro  hq H locs ls hP hD hS hl
                refine lv_iload_n hx hb dL_where_224 rfl (lv_at hl 2 rfl) ?_
                exact hq _ _ _ hP hD hS (lv_sub hl [0, 1, 3, 4, 5, 6, 7] rfl))
              refine lv_if_eq (tgt := 224) hx hb dL_where_204 (by decide) (fun hc => ?_) (fun hc => ?_)
              · have hq := hq.1 hc
                exact hq _ _ _ hP hD hS (lv_sub hl [1, 0, 2, 3, 4, 5, 6, 7] rfl)
              · have hq := hq.2 hc
                refine lv_aload_n hx hb dL_where_207 rfl (lv_at hl 1 rfl) ?_
                refine lv_iload hx hb dL_where_208 (lv_at hl 5 rfl) ?_
                have hin := hq.1
                have hq := hq.2
                refine va_iald hx hb hK hP 0 0 rfl rfl hin dL_where_210 ?_
                refine lv_iconst (v := 1) hx hb dL_where_211 (by decide) ?_
                refine lv_icmp_le (tgt := 224) hx hb dL_where_212 (by decide) (fun hc => ?_) (fun hc => ?_)
                · have hq := hq.1 hc
                  exact hq _ _ _ hP hD hS (lv_sub hl [1, 0, 2, 3, 4, 5, 6, 7] rfl)
                · have hq := hq.2 hc
                  refine lv_iload hx hb dL_where_215 (lv_at hl 7 rfl) ?_
                  refine lv_iconst (v := 1) hx hb dL_where_217 (by decide) ?_
                  refine lv_isub hx hb dL_where_218 ?_
                  refine lv_iload_n hx hb dL_where_219 rfl (lv_at hl 2 rfl) ?_
                  refine lv_isub hx hb dL_where_220 ?_
                  refine lv_goto (tgt := 225) hx hb dL_where_221 (by decide) ?_
                  exact hq _ _ _ hP hD hS (lv_sub hl [1, 0, 3, 4, 5, 6, 7] rfl))
            have hq := hq (∀ (H : Heap) (locs : List Loc) (ls : Array Slot), va_P (dC, dI) vwCl [(lf, .inl (cI, 7, .inl vf))] H → va_D A [(lf, .inl (cI, 7, .inl vf))] → va_S A s.heap H locs → lv_has ls 11 [(0, .ref lf), (2, .int v2_3), (3, .int v3_4), (4, .int t_12), (5, .int t_13), (6, .int v6_7), (7, .int r_8), (8, .int r_9), (10, .int t_11)] → W p l e ({ frames := 1, cells := 0, slots := 0, locals := 23 } : Room) s m ([.ref lf, .int x1] : List Value).toArray below meth c H locs 0 0 Q (F0 m 200 ls [])) (by
              intro  hq H locs ls hP hD hS hl
              refine lv_iload_n hx hb dL_where_200 rfl (lv_at hl 1 rfl) ?_
              exact hq _ _ _ hP hD hS (lv_sub hl [0, 2, 3, 4, 5, 6, 7, 8] rfl))
            refine lv_if_eq (tgt := 200) hx hb dL_where_180 (by decide) (fun hc => ?_) (fun hc => ?_)
            · have hq := hq.1 hc
              exact hq _ _ _ hP hD hS (lv_sub hl [1, 2, 3, 4, 0, 5, 6, 7, 8] rfl)
            · have hq := hq.2 hc
              refine lv_aload_n hx hb dL_where_183 rfl (lv_at hl 1 rfl) ?_
              refine lv_iload hx hb dL_where_184 (lv_at hl 5 rfl) ?_
              have hin := hq.1
              have hq := hq.2
              refine va_iald hx hb hK hP 0 0 rfl rfl hin dL_where_186 ?_
              refine lv_iconst (v := 2) hx hb dL_where_187 (by decide) ?_
              refine lv_icmp_ge (tgt := 200) hx hb dL_where_188 (by decide) (fun hc => ?_) (fun hc => ?_)
              · have hq := hq.1 hc
                exact hq _ _ _ hP hD hS (lv_sub hl [1, 2, 3, 4, 0, 5, 6, 7, 8] rfl)
              · have hq := hq.2 hc
                refine lv_iload hx hb dL_where_191 (lv_at hl 6 rfl) ?_
                refine lv_iconst (v := 1) hx hb dL_where_193 (by decide) ?_
                refine lv_isub hx hb dL_where_194 ?_
                refine lv_iload_n hx hb dL_where_195 rfl (lv_at hl 2 rfl) ?_
                refine lv_isub hx hb dL_where_196 ?_
                refine lv_goto (tgt := 201) hx hb dL_where_197 (by decide) ?_
                exact hq _ _ _ hP hD hS (lv_sub hl [1, 3, 4, 0, 5, 6, 7, 8] rfl))
          refine lv_if_eq (tgt := 174) hx hb dL_where_164 (by decide) (fun hc => ?_) (fun hc => ?_)
          · have hq := hq.1 hc
            refine lv_iload hx hb dL_where_174 (lv_at hl 4 rfl) ?_
            exact hq _ _ _ hP hD hS (lv_sub hl [1, 2, 3, 0, 5, 6, 7, 8] rfl)
          · have hq := hq.2 hc
            refine lv_iconst (v := 1) hx hb dL_where_167 (by decide) ?_
            refine lv_iload hx hb dL_where_168 (lv_at hl 4 rfl) ?_
            refine lv_isub hx hb dL_where_170 ?_
            refine lv_goto (tgt := 176) hx hb dL_where_171 (by decide) ?_
            exact hq _ _ _ hP hD hS (lv_sub hl [1, 2, 3, 0, 5, 6, 7, 8] rfl))
        refine lv_if_eq (tgt := 155) hx hb dL_where_142 (by decide) (fun hc => ?_) (fun hc => ?_)
        · have hq := hq.1 hc
          refine lv_iload hx hb dL_where_155 (lv_at hl 9 rfl) ?_
          refine lv_iload hx hb dL_where_157 (lv_at hl 4 rfl) ?_
          refine lv_iadd hx hb dL_where_159 ?_
          exact hq _ _ _ hP hD hS (lv_sub hl [1, 2, 3, 5, 6, 7, 8, 0] rfl)
        · have hq := hq.2 hc
          refine lv_iload hx hb dL_where_145 (lv_at hl 9 rfl) ?_
          refine lv_iconst (v := 1) hx hb dL_where_147 (by decide) ?_
          refine lv_isub hx hb dL_where_148 ?_
          refine lv_iload hx hb dL_where_149 (lv_at hl 4 rfl) ?_
          refine lv_isub hx hb dL_where_151 ?_
          refine lv_goto (tgt := 160) hx hb dL_where_152 (by decide) ?_
          exact hq _ _ _ hP hD hS (lv_sub hl [1, 2, 3, 5, 6, 7, 8, 0] rfl))
      refine lv_if_ne (tgt := 77) hx hb dL_where_58 (by decide) (fun hc => ?_) (fun hc => ?_)
      · have hq := hq.1 hc
        refine lv_aload_n hx hb dL_where_77 rfl (lv_at hl 3 rfl) ?_
        refine lv_iload hx hb dL_where_78 (lv_at hl 8 rfl) ?_
        have hin := hq.1
        have hq := hq.2
        refine va_iald hx hb hK hP 0 0 rfl rfl hin dL_where_80 ?_
        refine lv_iconst (v := 1) hx hb dL_where_81 (by decide) ?_
        refine lv_icmp_ne (tgt := 101) hx hb dL_where_82 (by decide) (fun hc => ?_) (fun hc => ?_)
        · have hq := hq.1 hc
          refine lv_aload_n hx hb dL_where_101 rfl (lv_at hl 3 rfl) ?_
          refine lv_iload hx hb dL_where_102 (lv_at hl 8 rfl) ?_
          have hin := hq.1
          have hq := hq.2
          refine va_iald hx hb hK hP 0 0 rfl rfl hin dL_where_104 ?_
          refine lv_iconst (v := 2) hx hb dL_where_105 (by decide) ?_
          refine lv_icmp_ne (tgt := 125) hx hb dL_where_106 (by decide) (fun hc => ?_) (fun hc => ?_)
          · have hq := hq.1 hc
            refine lv_iload_n hx hb dL_where_125 rfl (lv_at hl 5 rfl) ?_
            refine lv_iload hx hb dL_where_126 (lv_at hl 1 rfl) ?_
            refine lv_iconst (v := 2) hx hb dL_where_128 (by decide) ?_
            refine lv_idiv hx hb dL_where_129 (by decide) ?_
            refine lv_icmp_lt (tgt := 137) hx hb dL_where_130 (by decide) (fun hc => ?_) (fun hc => ?_)
            · have hq := hq.1 hc
              refine lv_iconst (v := 0) hx hb dL_where_137 (by decide) ?_
              exact hq _ _ _ hP hD hS (lv_sub hl [3, 4, 5, 6, 7, 8, 2, 1, 0] rfl)
            · have hq := hq.2 hc
              refine lv_iconst (v := 1) hx hb dL_where_133 (by decide) ?_
              refine lv_goto (tgt := 138) hx hb dL_where_134 (by decide) ?_
              exact hq _ _ _ hP hD hS (lv_sub hl [3, 4, 5, 6, 7, 8, 2, 1, 0] rfl)
          · have hq := hq.2 hc
            refine lv_iload_n hx hb dL_where_109 rfl (lv_at hl 5 rfl) ?_
            refine lv_iload hx hb dL_where_110 (lv_at hl 1 rfl) ?_
            refine lv_iconst (v := 2) hx hb dL_where_112 (by decide) ?_
            refine lv_idiv hx hb dL_where_113 (by decide) ?_
            refine lv_icmp_ge (tgt := 121) hx hb dL_where_114 (by decide) (fun hc => ?_) (fun hc => ?_)
            · have hq := hq.1 hc
              refine lv_iconst (v := 0) hx hb dL_where_121 (by decide) ?_
              refine lv_goto (tgt := 138) hx hb dL_where_122 (by decide) ?_
              exact hq _ _ _ hP hD hS (lv_sub hl [3, 4, 5, 6, 7, 8, 2, 1, 0] rfl)
            · have hq := hq.2 hc
              refine lv_iconst (v := 1) hx hb dL_where_117 (by decide) ?_
              refine lv_goto (tgt := 138) hx hb dL_where_118 (by decide) ?_
              exact hq _ _ _ hP hD hS (lv_sub hl [3, 4, 5, 6, 7, 8, 2, 1, 0] rfl)
        · have hq := hq.2 hc
          refine lv_iload_n hx hb dL_where_85 rfl (lv_at hl 4 rfl) ?_
          refine lv_iload hx hb dL_where_86 (lv_at hl 2 rfl) ?_
          refine lv_iconst (v := 2) hx hb dL_where_88 (by decide) ?_
          refine lv_idiv hx hb dL_where_89 (by decide) ?_
          refine lv_icmp_lt (tgt := 97) hx hb dL_where_90 (by decide) (fun hc => ?_) (fun hc => ?_)
          · have hq := hq.1 hc
            refine lv_iconst (v := 0) hx hb dL_where_97 (by decide) ?_
            refine lv_goto (tgt := 138) hx hb dL_where_98 (by decide) ?_
            exact hq _ _ _ hP hD hS (lv_sub hl [3, 4, 5, 6, 7, 8, 2, 1, 0] rfl)
          · have hq := hq.2 hc
            refine lv_iconst (v := 1) hx hb dL_where_93 (by decide) ?_
            refine lv_goto (tgt := 138) hx hb dL_where_94 (by decide) ?_
            exact hq _ _ _ hP hD hS (lv_sub hl [3, 4, 5, 6, 7, 8, 2, 1, 0] rfl)
      · have hq := hq.2 hc
        refine lv_iload_n hx hb dL_where_61 rfl (lv_at hl 4 rfl) ?_
        refine lv_iload hx hb dL_where_62 (lv_at hl 2 rfl) ?_
        refine lv_iconst (v := 2) hx hb dL_where_64 (by decide) ?_
        refine lv_idiv hx hb dL_where_65 (by decide) ?_
        refine lv_icmp_ge (tgt := 73) hx hb dL_where_66 (by decide) (fun hc => ?_) (fun hc => ?_)
        · have hq := hq.1 hc
          refine lv_iconst (v := 0) hx hb dL_where_73 (by decide) ?_
          refine lv_goto (tgt := 138) hx hb dL_where_74 (by decide) ?_
          exact hq _ _ _ hP hD hS (lv_sub hl [3, 4, 5, 6, 7, 8, 2, 1, 0] rfl)
        · have hq := hq.2 hc
          refine lv_iconst (v := 1) hx hb dL_where_69 (by decide) ?_
          refine lv_goto (tgt := 138) hx hb dL_where_70 (by decide) ?_
          exact hq _ _ _ hP hD hS (lv_sub hl [3, 4, 5, 6, 7, 8, 2, 1, 0] rfl))
  exact hq _ _ _ hP hD hS (lv_sub hl [5, 4, 3, 2, 1, 0] rfl)
set_option maxHeartbeats 4000000 in
set_option maxRecDepth 100000 in
theorem c_L_at (l : Launch) (dC : Nat → ClassId) (dI : Nat → Nat → Nat) (cI cC cS : ClassId) (lf : Nat) (sz : Nat) (vf : Nat → Int32) (x1 : Int32) (x2 : Int32) (x3 : Int32) {post : Int32 → Prop} (hq : wp_L_at vf x1 x2 x3 post) : Met l yL_at wsL_at ({ frames := 2, cells := 0, slots := 0, locals := 53 } : Room) (gn_Pre (dC, dI) cI cC cS [.ref lf, .int x1, .int x2, .int x3] sz [(lf, .inl (cI, 7, .inl vf))]) (va_Qi (fun (r : Int32) (u : Unit) => post r) (fun (u : Unit) t => va_P (dC, dI) vwCl [(lf, .inl (cI, 7, .inl vf))] t.heap ∧ va_K (dC, dI) vwCl (gn_tys cI cC cS) t ∧ va_D (va_A [(lf, .inl (cI, 7, .inl vf))] sz) [(lf, .inl (cI, 7, .inl vf))]) (va_A [(lf, .inl (cI, 7, .inl vf))] sz)) 0 0 (va_A [(lf, .inl (cI, 7, .inl vf))] sz) := by
  unfold wp_L_at at hq
  refine Met.ofW (cc := cL_at) (maxL := 6) (ret := (some .int)) (by decide) rfl ?_
  intro p e s m args below meth c s₁ B hml hv
  obtain ⟨rfl, hsz, hP, hK, hN, hD0⟩ := hv
  have hx := B.exec
  have hb := B.bytes
  have hr := B.returns
  have hts := atoms_spec (ws := wsL_at) B.pre
  have hown : s.vm.findClass RL = some m.cls := findClass_of_methodNamed B.named
  have hlocks := B.notSynchronized
  subst hsz
  have hD := hD0.self (sz := s.heap.size)
  generalize hAe : va_A [(lf, .inl (cI, 7, .inl vf))] s.heap.size = A at hD ⊢
  have hA : ∀ q : Nat, s.heap.size ≤ q → A q := fun q h => by rw [← hAe]; exact Or.inr h
  have hS : va_S A s.heap s.heap [] := va_S.rf
  have hl := lv_entry ([.ref lf, .int x1, .int x2, .int x3] : List Value) (n := 6) (Nat.le_of_ble_eq_true rfl)
  rw [lg_entry_eq]
  generalize (lg_sl ([.ref lf, .int x1, .int x2, .int x3] : List Value) ++ List.replicate (6 - (lg_sl ([.ref lf, .int x1, .int x2, .int x3] : List Value)).length) Slot.unset).toArray = ls at hl ⊢
  have hl : lv_has ls 6 [(0, .ref lf), (1, .int x1), (2, .int x2), (3, .int x3)] := hl
  refine gn_Q (hret := fun Q => ∀ (pc : Nat) (ls : Array Slot) (H : Heap) (locs : List Loc) (r : Int32) , decode cL_at pc = .ok (.ireturn, 1) → va_P (dC, dI) vwCl [(lf, .inl (cI, 7, .inl vf))] H → va_D A [(lf, .inl (cI, 7, .inl vf))] → va_S A s.heap H locs → post r → W p l e ({ frames := 2, cells := 0, slots := 0, locals := 53 } : Room) s m ([.ref lf, .int x1, .int x2, .int x3] : List Value).toArray below meth c H locs 0 0 Q (F0 m pc ls [.int r])) (fun Q hret => ?_) ?_
  rotate_left
  · intro pc ls H locs r hdg hP hD hS hpost
    exact W.iret (v := r) hx hb hr (fun t ht hW => ⟨⟨r, (), rfl, hpost, by rw [ht]; exact hP, va_K.moved hW.alike hK, hD⟩, hS.F ht⟩) hS.2.2 hdg
  refine lv_iconst (v := -1) hx hb dL_at_0 (by decide) ?_
  refine lv_istore (lv' := [(4, .int (-1 : Int32)), (0, .ref lf), (1, .int x1), (2, .int x2), (3, .int x3)]) hx hb dL_at_1 hl (by decide) rfl (fun ls hl => ?_)
  refine lv_iconst (v := 0) hx hb dL_at_3 (by decide) ?_
  refine lv_istore (lv' := [(5, .int (0 : Int32)), (4, .int (-1 : Int32)), (0, .ref lf), (1, .int x1), (2, .int x2), (3, .int x3)]) hx hb dL_at_4 hl (by decide) rfl (fun ls hl => ?_)
  have hq := hq (fun (v4_1 : Int32) (v5_2 : Int32) => ∀ (H : Heap) (locs : List Loc) (ls : Array Slot), va_P (dC, dI) vwCl [(lf, .inl (cI, 7, .inl vf))] H → va_D A [(lf, .inl (cI, 7, .inl vf))] → va_S A s.heap H locs → lv_has ls 6 [(0, .ref lf), (1, .int x1), (2, .int x2), (3, .int x3), (4, .int v4_1), (5, .int v5_2)] → W p l e ({ frames := 2, cells := 0, slots := 0, locals := 53 } : Room) s m ([.ref lf, .int x1, .int x2, .int x3] : List Value).toArray below meth c H locs 0 0 Q (F0 m 6 ls [])) (by
    intro v4_1 v5_2 hq H locs ls hP hD hS hl
    refine lv_iload hx hb dL_at_6 (lv_at hl 5 rfl) ?_
    refine lv_bipush (v := 64) hx hb dL_at_8 (by decide) ?_
    refine lv_icmp_ge (tgt := 52) hx hb dL_at_10 (by decide) (fun hc => ?_) (fun hc => ?_)
    · have hq := hq.1 hc
      refine lv_iload hx hb dL_at_52 (lv_at hl 4 rfl) ?_
      exact hret _ _ _ _ _ dL_at_54 hP hD hS hq
    · have hq := hq.2 hc
      refine lv_aload_n hx hb dL_at_13 rfl (lv_at hl 0 rfl) ?_
      refine lv_iload hx hb dL_at_14 (lv_at hl 5 rfl) ?_
      have hPc := hP.sub (ws' := [(lf, .inl (cI, 7, .inl vf))]) [0] rfl
      have hDc := hD.sub (ws' := [(lf, .inl (cI, 7, .inl vf))]) [0] (by decide) rfl
      have hFc := va_free (wc := [(lf, .inl (cI, 7, .inl vf))]) hD hS hA [0] rfl
      refine va_calli (va_runS (As := [.ref lf, .int v5_2]) (rest := []) ⟨hx, hb, hml, hown, hts⟩ (c_L_where l dC dI cI cC cS lf _ vf v5_2 hq) (va_cwS 2 hts gL_at_L_where rfl rfl rfl (by decide +kernel) ⟨Nat.le_of_ble_eq_true rfl, Nat.le_of_ble_eq_true rfl⟩) (gn_preS hPc hK hN hDc) rfl rfl hl.1 rfl (lv_room (Nat.le_of_ble_eq_true rfl)) dL_at_16 ⟨Nat.zero_le _, Nat.zero_le _⟩) hS (fun q _ h => hFc q h) hFc (fun r_3 u t H1 locs ht hvm hq hB hz1 hk1 hS => ?_)
      obtain ⟨hP1, hK1, hD1⟩ := hB
      rw [ht] at hP1
      try dsimp only at hq
      have hP := gn_ro (wc := [(lf, .inl (cI, 7, .inl vf))]) hP hD [0] rfl hk1 hP1
      generalize H1 = H at hP hS ⊢
      refine lv_sipush (v := 4096) hx hb dL_at_19 (by decide) ?_
      refine lv_irem hx hb dL_at_22 (by decide) ?_
      refine lv_iload_n hx hb dL_at_23 rfl (lv_at hl 1 rfl) ?_
      refine lv_bipush (v := 8) hx hb dL_at_24 (by decide) ?_
      refine lv_iload_n hx hb dL_at_26 rfl (lv_at hl 2 rfl) ?_
      refine lv_imul hx hb dL_at_27 ?_
      refine lv_iadd hx hb dL_at_28 ?_
      refine lv_bipush (v := 64) hx hb dL_at_29 (by decide) ?_
      refine lv_iload_n hx hb dL_at_31 rfl (lv_at hl 3 rfl) ?_
      refine lv_imul hx hb dL_at_32 ?_
      refine lv_iadd hx hb dL_at_33 ?_
      have hq := hq (fun (t_4 : Int32) => ∀ (H : Heap) (locs : List Loc) (ls : Array Slot), va_P (dC, dI) vwCl [(lf, .inl (cI, 7, .inl vf))] H → va_D A [(lf, .inl (cI, 7, .inl vf))] → va_S A s.heap H locs → lv_has ls 6 [(0, .ref lf), (1, .int x1), (2, .int x2), (3, .int x3), (5, .int v5_2)] → W p l e ({ frames := 2, cells := 0, slots := 0, locals := 53 } : Room) s m ([.ref lf, .int x1, .int x2, .int x3] : List Value).toArray below meth c H locs 0 0 Q (F0 m 44 ls [.int t_4])) (by
        intro t_4 hq H locs ls hP hD hS hl
        refine lv_istore (lv' := [(4, .int t_4), (0, .ref lf), (1, .int x1), (2, .int x2), (3, .int x3), (5, .int v5_2)]) hx hb dL_at_44 hl (by decide) rfl (fun ls hl => ?_)
        refine lv_iinc (v := (v5_2 + (1 : Int32))) (lv' := [(5, .int (v5_2 + (1 : Int32))), (4, .int t_4), (0, .ref lf), (1, .int x1), (2, .int x2), (3, .int x3)]) hx hb dL_at_46 hl (k := 5) rfl rfl (by decide) rfl (fun ls hl => ?_)
        refine lv_goto (tgt := 6) hx hb dL_at_49 (by decide) ?_
        exact hq _ _ _ hP hD hS (lv_sub hl [2, 3, 4, 5, 1, 0] rfl))
      refine lv_icmp_ne (tgt := 42) hx hb dL_at_34 (by decide) (fun hc => ?_) (fun hc => ?_)
      · have hq := hq.1 hc
        refine lv_iload hx hb dL_at_42 (lv_at hl 4 rfl) ?_
        exact hq _ _ _ hP hD hS (lv_sub hl [0, 1, 2, 3, 5] rfl)
      · have hq := hq.2 hc
        refine lv_iload hx hb dL_at_37 (lv_at hl 5 rfl) ?_
        refine lv_goto (tgt := 44) hx hb dL_at_39 (by decide) ?_
        exact hq _ _ _ hP hD hS (lv_sub hl [0, 1, 2, 3, 5] rfl))
  exact hq _ _ _ hP hD hS (lv_sub hl [2, 3, 4, 5, 1, 0] rfl)
set_option maxHeartbeats 4000000 in
set_option maxRecDepth 100000 in
theorem c_L_firstWhole (l : Launch) (dC : Nat → ClassId) (dI : Nat → Nat → Nat) (cI cC cS : ClassId) (lf : Nat) (lh : Nat) (sz : Nat) (vf : Nat → Int32) (vh : Nat → Int32) (x2 : Int32) (x3 : Int32) {post : Int32 → Prop} (hq : wp_L_firstWhole vf vh x2 x3 post) : Met l yL_firstWhole wsL_firstWhole ({ frames := 3, cells := 0, slots := 0, locals := 78 } : Room) (gn_Pre (dC, dI) cI cC cS [.ref lf, .ref lh, .int x2, .int x3] sz [(lf, .inl (cI, 7, .inl vf)), (lh, .inl (cI, 64, .inl vh))]) (va_Qi (fun (r : Int32) (u : Unit) => post r) (fun (u : Unit) t => va_P (dC, dI) vwCl [(lf, .inl (cI, 7, .inl vf)), (lh, .inl (cI, 64, .inl vh))] t.heap ∧ va_K (dC, dI) vwCl (gn_tys cI cC cS) t ∧ va_D (va_A [(lf, .inl (cI, 7, .inl vf)), (lh, .inl (cI, 64, .inl vh))] sz) [(lf, .inl (cI, 7, .inl vf)), (lh, .inl (cI, 64, .inl vh))]) (va_A [(lf, .inl (cI, 7, .inl vf)), (lh, .inl (cI, 64, .inl vh))] sz)) 0 0 (va_A [(lf, .inl (cI, 7, .inl vf)), (lh, .inl (cI, 64, .inl vh))] sz) := by
  unfold wp_L_firstWhole at hq
  refine Met.ofW (cc := cL_firstWhole) (maxL := 5) (ret := (some .int)) (by decide) rfl ?_
  intro p e s m args below meth c s₁ B hml hv
  obtain ⟨rfl, hsz, hP, hK, hN, hD0⟩ := hv
  have hx := B.exec
  have hb := B.bytes
  have hr := B.returns
  have hts := atoms_spec (ws := wsL_firstWhole) B.pre
  have hown : s.vm.findClass RL = some m.cls := findClass_of_methodNamed B.named
  have hlocks := B.notSynchronized
  subst hsz
  have hD := hD0.self (sz := s.heap.size)
  generalize hAe : va_A [(lf, .inl (cI, 7, .inl vf)), (lh, .inl (cI, 64, .inl vh))] s.heap.size = A at hD ⊢
  have hA : ∀ q : Nat, s.heap.size ≤ q → A q := fun q h => by rw [← hAe]; exact Or.inr h
  have hS : va_S A s.heap s.heap [] := va_S.rf
  have hl := lv_entry ([.ref lf, .ref lh, .int x2, .int x3] : List Value) (n := 5) (Nat.le_of_ble_eq_true rfl)
  rw [lg_entry_eq]
  generalize (lg_sl ([.ref lf, .ref lh, .int x2, .int x3] : List Value) ++ List.replicate (5 - (lg_sl ([.ref lf, .ref lh, .int x2, .int x3] : List Value)).length) Slot.unset).toArray = ls at hl ⊢
  have hl : lv_has ls 5 [(0, .ref lf), (1, .ref lh), (2, .int x2), (3, .int x3)] := hl
  refine gn_Q (hret := fun Q => ∀ (pc : Nat) (ls : Array Slot) (H : Heap) (locs : List Loc) (r : Int32) , decode cL_firstWhole pc = .ok (.ireturn, 1) → va_P (dC, dI) vwCl [(lf, .inl (cI, 7, .inl vf)), (lh, .inl (cI, 64, .inl vh))] H → va_D A [(lf, .inl (cI, 7, .inl vf)), (lh, .inl (cI, 64, .inl vh))] → va_S A s.heap H locs → post r → W p l e ({ frames := 3, cells := 0, slots := 0, locals := 78 } : Room) s m ([.ref lf, .ref lh, .int x2, .int x3] : List Value).toArray below meth c H locs 0 0 Q (F0 m pc ls [.int r])) (fun Q hret => ?_) ?_
  rotate_left
  · intro pc ls H locs r hdg hP hD hS hpost
    exact W.iret (v := r) hx hb hr (fun t ht hW => ⟨⟨r, (), rfl, hpost, by rw [ht]; exact hP, va_K.moved hW.alike hK, hD⟩, hS.F ht⟩) hS.2.2 hdg
  refine lv_iconst (v := 0) hx hb dL_firstWhole_0 (by decide) ?_
  refine lv_istore (lv' := [(4, .int (0 : Int32)), (0, .ref lf), (1, .ref lh), (2, .int x2), (3, .int x3)]) hx hb dL_firstWhole_1 hl (by decide) rfl (fun ls hl => ?_)
  have hq := hq (fun (v4_1 : Int32) => ∀ (H : Heap) (locs : List Loc) (ls : Array Slot), va_P (dC, dI) vwCl [(lf, .inl (cI, 7, .inl vf)), (lh, .inl (cI, 64, .inl vh))] H → va_D A [(lf, .inl (cI, 7, .inl vf)), (lh, .inl (cI, 64, .inl vh))] → va_S A s.heap H locs → lv_has ls 5 [(0, .ref lf), (1, .ref lh), (2, .int x2), (3, .int x3), (4, .int v4_1)] → W p l e ({ frames := 3, cells := 0, slots := 0, locals := 78 } : Room) s m ([.ref lf, .ref lh, .int x2, .int x3] : List Value).toArray below meth c H locs 0 0 Q (F0 m 3 ls [])) (by
    intro v4_1 hq H locs ls hP hD hS hl
    refine lv_iload hx hb dL_firstWhole_3 (lv_at hl 4 rfl) ?_
    refine lv_aload_n hx hb dL_firstWhole_5 rfl (lv_at hl 0 rfl) ?_
    have hPc := hP.sub (ws' := [(lf, .inl (cI, 7, .inl vf))]) [0] rfl
    have hDc := hD.sub (ws' := [(lf, .inl (cI, 7, .inl vf))]) [0] (by decide) rfl
    have hFc := va_free (wc := [(lf, .inl (cI, 7, .inl vf))]) hD hS hA [0] rfl
    refine va_calli (va_runS (As := [.ref lf]) (rest := [.int v4_1]) ⟨hx, hb, hml, hown, hts⟩ (c_L_layers l dC dI cI cC cS lf _ vf hq) (va_cwS 1 hts gL_firstWhole_L_layers rfl rfl rfl (by decide +kernel) ⟨Nat.le_of_ble_eq_true rfl, Nat.le_of_ble_eq_true rfl⟩) (gn_preS hPc hK hN hDc) rfl rfl hl.1 rfl (lv_room (Nat.le_of_ble_eq_true rfl)) dL_firstWhole_6 ⟨Nat.zero_le _, Nat.zero_le _⟩) hS (fun q _ h => hFc q h) hFc (fun r_2 u t H1 locs ht hvm hq hB hz1 hk1 hS => ?_)
    obtain ⟨hP1, hK1, hD1⟩ := hB
    rw [ht] at hP1
    try dsimp only at hq
    have hP := gn_ro (wc := [(lf, .inl (cI, 7, .inl vf))]) hP hD [0] rfl hk1 hP1
    generalize H1 = H at hP hS ⊢
    have hq := hq (∀ (H : Heap) (locs : List Loc) (ls : Array Slot), va_P (dC, dI) vwCl [(lf, .inl (cI, 7, .inl vf)), (lh, .inl (cI, 64, .inl vh))] H → va_D A [(lf, .inl (cI, 7, .inl vf)), (lh, .inl (cI, 64, .inl vh))] → va_S A s.heap H locs → lv_has ls 5 [(4, .int v4_1)] → W p l e ({ frames := 3, cells := 0, slots := 0, locals := 78 } : Room) s m ([.ref lf, .ref lh, .int x2, .int x3] : List Value).toArray below meth c H locs 0 0 Q (F0 m 32 ls [])) (by
      intro  hq H locs ls hP hD hS hl
      refine lv_iload hx hb dL_firstWhole_32 (lv_at hl 0 rfl) ?_
      exact hret _ _ _ _ _ dL_firstWhole_34 hP hD hS hq)
    refine lv_icmp_ge (tgt := 32) hx hb dL_firstWhole_9 (by decide) (fun hc => ?_) (fun hc => ?_)
    · have hq := hq.1 hc
      exact hq _ _ _ hP hD hS (lv_sub hl [4] rfl)
    · have hq := hq.2 hc
      refine lv_aload_n hx hb dL_firstWhole_12 rfl (lv_at hl 1 rfl) ?_
      refine lv_aload_n hx hb dL_firstWhole_13 rfl (lv_at hl 0 rfl) ?_
      refine lv_iload_n hx hb dL_firstWhole_14 rfl (lv_at hl 2 rfl) ?_
      refine lv_iload_n hx hb dL_firstWhole_15 rfl (lv_at hl 3 rfl) ?_
      refine lv_iload hx hb dL_firstWhole_16 (lv_at hl 4 rfl) ?_
      have hPc := hP.sub (ws' := [(lf, .inl (cI, 7, .inl vf))]) [0] rfl
      have hDc := hD.sub (ws' := [(lf, .inl (cI, 7, .inl vf))]) [0] (by decide) rfl
      have hFc := va_free (wc := [(lf, .inl (cI, 7, .inl vf))]) hD hS hA [0] rfl
      refine va_calli (va_runS (As := [.ref lf, .int x2, .int x3, .int v4_1]) (rest := [.ref lh]) ⟨hx, hb, hml, hown, hts⟩ (c_L_at l dC dI cI cC cS lf _ vf x2 x3 v4_1 hq) (va_cwS 4 hts gL_firstWhole_L_at rfl rfl rfl (by decide +kernel) ⟨Nat.le_of_ble_eq_true rfl, Nat.le_of_ble_eq_true rfl⟩) (gn_preS hPc hK hN hDc) rfl rfl hl.1 rfl (lv_room (Nat.le_of_ble_eq_true rfl)) dL_firstWhole_18 ⟨Nat.zero_le _, Nat.zero_le _⟩) hS (fun q _ h => hFc q h) hFc (fun r_3 u t H1 locs ht hvm hq hB hz1 hk1 hS => ?_)
      obtain ⟨hP1, hK1, hD1⟩ := hB
      rw [ht] at hP1
      try dsimp only at hq
      have hP := gn_ro (wc := [(lf, .inl (cI, 7, .inl vf))]) hP hD [0] rfl hk1 hP1
      generalize H1 = H at hP hS ⊢
      have hin := hq.1
      have hq := hq.2
      refine va_iald hx hb hK hP 1 0 rfl rfl hin dL_firstWhole_21 ?_
      refine lv_iconst (v := 1) hx hb dL_firstWhole_22 (by decide) ?_
      refine lv_icmp_ne (tgt := 32) hx hb dL_firstWhole_23 (by decide) (fun hc => ?_) (fun hc => ?_)
      · have hq := hq.1 hc
        exact hq _ _ _ hP hD hS (lv_sub hl [4] rfl)
      · have hq := hq.2 hc
        refine lv_iinc (v := (v4_1 + (1 : Int32))) (lv' := [(4, .int (v4_1 + (1 : Int32))), (0, .ref lf), (1, .ref lh), (2, .int x2), (3, .int x3)]) hx hb dL_firstWhole_26 hl (k := 4) rfl rfl (by decide) rfl (fun ls hl => ?_)
        refine lv_goto (tgt := 3) hx hb dL_firstWhole_29 (by decide) ?_
        exact hq _ _ _ hP hD hS (lv_sub hl [1, 2, 3, 4, 0] rfl))
  exact hq _ _ _ hP hD hS (lv_sub hl [1, 2, 3, 4, 0] rfl)
