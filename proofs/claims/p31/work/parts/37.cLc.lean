def wp_L_paper (npat : Int64) (ngoal : Int64) (ncol : Nat → Int32) (nmade : Int32) (nmac : Int32) (nks : Nat → Int32) (vf : Nat → Int32) (vh : Nat → Int32) (vu : Nat → Int32) (vd : Nat → Int32) (vt : Nat → Int32) (post : Int32 → Prop) : Prop :=
  vp_in (6 : Int32) 7 ∧ (wp_L_wide vf (vf ((6 : Int32)).toNatClampNeg) (fun r_1 => wp_L_layers vf (fun r_2 => ∀ (P31 : Int32 → Int32 → Int32 → Int32 → Int32 → Prop), (∀ (v8_3 : Int32) (v9_4 : Int32) (v10_5 : Int32) (v11_6 : Int32) (v12_7 : Int32), ((((64 : Int32) ≤ v12_7) → ∀ (P411 : Int32 → Prop), (∀ (v12_8 : Int32), ((((6 : Int32) ≤ v12_8) → wp_L_pieces vh (fun r_9 => wp_X5_size nmade nmac (0 : Int32) (fun r_10 => ∀ (P576 : Prop), ((((0 : Int32) = 0 ∨ (0 : Int32) = 1) ∧ (post (0 : Int32))) → P576 ) → ((¬ r_10 = r_1) → P576) ∧ ((r_10 = r_1) → wp_X5_size nmade nmac (1 : Int32) (fun r_11 => vp_in (6 : Int32) 7 ∧ (wp_L_high vf (vf ((6 : Int32)).toNatClampNeg) (fun r_12 => ((¬ r_11 = r_12) → P576) ∧ ((r_11 = r_12) → wp_X5_size nmade nmac (2 : Int32) (fun r_13 => ((¬ r_13 = r_2) → P576) ∧ ((r_13 = r_2) → wp_X5_size nmade nmac (3 : Int32) (fun r_14 => vp_in (6 : Int32) 7 ∧ (((¬ r_14 = (vf ((6 : Int32)).toNatClampNeg)) → P576) ∧ ((r_14 = (vf ((6 : Int32)).toNatClampNeg)) → wp_X5_count npat ngoal ncol (0 : Int32) (fun r_15 => ((¬ r_15 = v8_3) → P576) ∧ ((r_15 = v8_3) → wp_X5_count npat ngoal ncol (1 : Int32) (fun r_16 => ((¬ r_16 = (r_9 - r_9 / (100 : Int32) * (100 : Int32))) → P576) ∧ ((r_16 = (r_9 - r_9 / (100 : Int32) * (100 : Int32))) → wp_X5_count npat ngoal ncol (2 : Int32) (fun r_17 => ((¬ r_17 = (r_9 / (100 : Int32))) → P576) ∧ ((r_17 = (r_9 / (100 : Int32))) → wp_X5_count npat ngoal ncol (3 : Int32) (fun r_18 => ((¬ r_18 = v9_4) → P576) ∧ ((r_18 = v9_4) → wp_X5_count npat ngoal ncol (4 : Int32) (fun r_19 => ((¬ r_19 = v10_5) → P576) ∧ ((r_19 = v10_5) → wp_X5_count npat ngoal ncol (5 : Int32) (fun r_20 => ((¬ r_20 = v11_6) → P576) ∧ ((r_20 = v11_6) → ((1 : Int32) = 0 ∨ (1 : Int32) = 1) ∧ (post (1 : Int32))))))))))))))))))))))))))) ∧ ((¬ (6 : Int32) ≤ v12_8) → wp_X5_foldAt nmade nks v12_8 (fun r_21 => vp_in (6 : Int32) 7 ∧ (∀ (P441 : Int32 → Prop), (∀ (t_22 : Int32), (((r_21 = t_22) → P411 (v12_8 + (1 : Int32))) ∧ ((¬ r_21 = t_22) → ((0 : Int32) = 0 ∨ (0 : Int32) = 1) ∧ (post (0 : Int32)))) → P441 t_22) → (((vf ((6 : Int32)).toNatClampNeg) ≤ v12_8) → P441 (-1 : Int32)) ∧ ((¬ (vf ((6 : Int32)).toNatClampNeg) ≤ v12_8) → vp_in v12_8 7 ∧ (P441 (vf (v12_8).toNatClampNeg))))))) → P411 v12_8) → P411 (0 : Int32)) ∧ ((¬ (64 : Int32) ≤ v12_7) → wp_L_where vf v12_7 (fun r_23 => ∀ w14_24 : Int32, w14_24 = (r_23 / (4096 : Int32)) → ∀ w15_25 : Int32, w15_25 = ((r_23 - r_23 / (4096 : Int32) * (4096 : Int32)) / (64 : Int32)) → vp_in (v12_7 / (8 : Int32)) 8 ∧ (∀ w16_26 : Int32, w16_26 = (((vt ((v12_7 / (8 : Int32))).toNatClampNeg) >>> ((v12_7 - v12_7 / (8 : Int32) * (8 : Int32)) &&& (31 : Int32))) &&& (1 : Int32)) → ∀ (P100 : Int32 → Prop), (∀ (t_27 : Int32), (vp_in v12_7 64 ∧ (∀ w8_28 : Int32, w8_28 = (v8_3 + (vh (v12_7).toNatClampNeg)) → vp_in v12_7 64 ∧ (∀ (P125 : Int32 → Prop), (∀ (t_29 : Int32), (vp_in v12_7 64 ∧ (∀ (P138 : Int32 → Prop), (∀ (t_30 : Int32), (∀ w9_31 : Int32, w9_31 = (v9_4 + (t_29 + t_30)) → ∀ w10_32 : Int32, w10_32 = (v10_5 + w16_26) → vp_in v12_7 64 ∧ (∀ (P165 : Int32 → Prop), (∀ (t_33 : Int32), (∀ w11_34 : Int32, w11_34 = (v11_6 + t_33) → wp_X5_where nmade nks v12_7 (0 : Int32) (fun r_35 => ∀ (P400 : Prop), ((((0 : Int32) = 0 ∨ (0 : Int32) = 1) ∧ (post (0 : Int32))) → P400 ) → ((¬ r_35 = (r_23 - r_23 / (8 : Int32) * (8 : Int32))) → P400) ∧ ((r_35 = (r_23 - r_23 / (8 : Int32) * (8 : Int32))) → wp_X5_where nmade nks v12_7 (1 : Int32) (fun r_36 => ((¬ r_36 = ((r_23 - r_23 / (64 : Int32) * (64 : Int32)) / (8 : Int32))) → P400) ∧ ((r_36 = ((r_23 - r_23 / (64 : Int32) * (64 : Int32)) / (8 : Int32))) → wp_X5_where nmade nks v12_7 (2 : Int32) (fun r_37 => ((¬ r_37 = w15_25) → P400) ∧ ((r_37 = w15_25) → wp_X5_where nmade nks v12_7 (3 : Int32) (fun r_38 => ((¬ r_38 = w14_24) → P400) ∧ ((r_38 = w14_24) → wp_X5_layer npat ncol nmade nmac nks (r_23 - r_23 / (8 : Int32) * (8 : Int32)) ((r_23 - r_23 / (64 : Int32) * (64 : Int32)) / (8 : Int32)) w15_25 (0 : Int32) (fun r_39 => ((¬ r_39 = v12_7) → P400) ∧ ((r_39 = v12_7) → wp_X5_layer npat ncol nmade nmac nks (r_23 - r_23 / (8 : Int32) * (8 : Int32)) ((r_23 - r_23 / (64 : Int32) * (64 : Int32)) / (8 : Int32)) w15_25 (1 : Int32) (fun r_40 => ((¬ r_40 = w14_24) → P400) ∧ ((r_40 = w14_24) → wp_X5_layer npat ncol nmade nmac nks (r_23 - r_23 / (8 : Int32) * (8 : Int32)) ((r_23 - r_23 / (64 : Int32) * (64 : Int32)) / (8 : Int32)) w15_25 (2 : Int32) (fun r_41 => vp_in v12_7 64 ∧ (((¬ r_41 = (vh (v12_7).toNatClampNeg)) → P400) ∧ ((r_41 = (vh (v12_7).toNatClampNeg)) → wp_X5_layer npat ncol nmade nmac nks (r_23 - r_23 / (8 : Int32) * (8 : Int32)) ((r_23 - r_23 / (64 : Int32) * (64 : Int32)) / (8 : Int32)) w15_25 (3 : Int32) (fun r_42 => ((¬ r_42 = t_27) → P400) ∧ ((r_42 = t_27) → wp_X5_colour ncol v12_7 (0 : Int32) (fun r_43 => vp_in v12_7 64 ∧ (((¬ r_43 = (vu (v12_7).toNatClampNeg)) → P400) ∧ ((r_43 = (vu (v12_7).toNatClampNeg)) → wp_X5_colour ncol v12_7 (1 : Int32) (fun r_44 => vp_in v12_7 64 ∧ (((¬ r_44 = (vd (v12_7).toNatClampNeg)) → P400) ∧ ((r_44 = (vd (v12_7).toNatClampNeg)) → wp_X5_holes npat (v12_7 / (8 : Int32)) (fun r_45 => vp_in v12_7 64 ∧ (((¬ ((r_45 >>> ((v12_7 - v12_7 / (8 : Int32) * (8 : Int32)) &&& (31 : Int32))) &&& (1 : Int32)) = (vh (v12_7).toNatClampNeg)) → P400) ∧ ((((r_45 >>> ((v12_7 - v12_7 / (8 : Int32) * (8 : Int32)) &&& (31 : Int32))) &&& (1 : Int32)) = (vh (v12_7).toNatClampNeg)) → wp_X5_target ngoal (v12_7 / (8 : Int32)) (fun r_46 => vp_in (v12_7 / (8 : Int32)) 8 ∧ (((r_46 = (vt ((v12_7 / (8 : Int32))).toNatClampNeg)) → P31 w8_28 w9_31 w10_32 w11_34 (v12_7 + (1 : Int32))) ∧ ((¬ r_46 = (vt ((v12_7 / (8 : Int32))).toNatClampNeg)) → P400)))))))))))))))))))))))))))))) → P165 t_33) → ((¬ w16_26 = (vh (v12_7).toNatClampNeg)) → P165 (1 : Int32)) ∧ ((w16_26 = (vh (v12_7).toNatClampNeg)) → P165 (0 : Int32)))) → P138 t_30) → (((vd (v12_7).toNatClampNeg) ≤ 0) → P138 (0 : Int32)) ∧ ((¬ (vd (v12_7).toNatClampNeg) ≤ 0) → P138 (1 : Int32)))) → P125 t_29) → (((vu (v12_7).toNatClampNeg) ≤ 0) → P125 (0 : Int32)) ∧ ((¬ (vu (v12_7).toNatClampNeg) ≤ 0) → P125 (1 : Int32))))) → P100 t_27) → ((¬ w14_24 = 0) → vp_in v12_7 64 ∧ (P100 (vd (v12_7).toNatClampNeg))) ∧ ((w14_24 = 0) → vp_in v12_7 64 ∧ (P100 (vu (v12_7).toNatClampNeg))))))) → P31 v8_3 v9_4 v10_5 v11_6 v12_7) → P31 (0 : Int32) (0 : Int32) (0 : Int32) (0 : Int32) (0 : Int32))))
set_option maxHeartbeats 4000000 in
set_option maxRecDepth 100000 in
theorem c_L_paper (l : Launch) (dC : Nat → ClassId) (dI : Nat → Nat → Nat) (cI cC cS : ClassId) (aR : Nat) (naS : Nat) (naC : Nat) (naF : Nat) (naK : Nat) (saS : Nat) (aHi : Nat) (taF : Nat) (aT : Nat) (lf : Nat) (lh : Nat) (lu : Nat) (ld : Nat) (lt : Nat) (sz : Nat) (isSaved : Int32) (npat : Int64) (ngoal : Int64) (ncol : Nat → Int32) (nmade : Int32) (nmac : Int32) (nks : Nat → Int32) (vf : Nat → Int32) (vh : Nat → Int32) (vu : Nat → Int32) (vd : Nat → Int32) (vt : Nat → Int32) {post : Int32 → Prop} (hq : wp_L_paper npat ngoal ncol nmade nmac nks vf vh vu vd vt post) : Met l yL_paper wsL_paper ({ frames := 4, cells := 2, slots := 128, locals := 97 } : Room) (gn_Pre (dC, dI) cI cC cS [.ref aR, .ref lf, .ref lh, .ref lu, .ref ld, .ref lt] sz [(aR, .inr (4, [.ref naS, .ref saS, .int isSaved, .ref aHi, .ref taF, .ref aT])), (naS, .inr (2, [.ref naF, .ref naC, .long npat, .long ngoal])), (naC, .inl (cI, 128, .inl ncol)), (naF, .inr (0, [.ref naK, .int nmade, .int nmac])), (naK, .inl (cI, 6, .inl nks)), (lf, .inl (cI, 7, .inl vf)), (lh, .inl (cI, 64, .inl vh)), (lu, .inl (cI, 64, .inl vu)), (ld, .inl (cI, 64, .inl vd)), (lt, .inl (cI, 8, .inl vt))]) (va_Qi (fun (r : Int32) (u : Unit) => post r) (fun (u : Unit) t => va_P (dC, dI) vwCl [(aR, .inr (4, [.ref naS, .ref saS, .int isSaved, .ref aHi, .ref taF, .ref aT])), (naS, .inr (2, [.ref naF, .ref naC, .long npat, .long ngoal])), (naC, .inl (cI, 128, .inl ncol)), (naF, .inr (0, [.ref naK, .int nmade, .int nmac])), (naK, .inl (cI, 6, .inl nks)), (lf, .inl (cI, 7, .inl vf)), (lh, .inl (cI, 64, .inl vh)), (lu, .inl (cI, 64, .inl vu)), (ld, .inl (cI, 64, .inl vd)), (lt, .inl (cI, 8, .inl vt))] t.heap ∧ va_K (dC, dI) vwCl (gn_tys cI cC cS) t ∧ va_D (va_A [(aR, .inr (4, [.ref naS, .ref saS, .int isSaved, .ref aHi, .ref taF, .ref aT])), (naS, .inr (2, [.ref naF, .ref naC, .long npat, .long ngoal])), (naC, .inl (cI, 128, .inl ncol)), (naF, .inr (0, [.ref naK, .int nmade, .int nmac])), (naK, .inl (cI, 6, .inl nks)), (lf, .inl (cI, 7, .inl vf)), (lh, .inl (cI, 64, .inl vh)), (lu, .inl (cI, 64, .inl vu)), (ld, .inl (cI, 64, .inl vd)), (lt, .inl (cI, 8, .inl vt))] sz) [(aR, .inr (4, [.ref naS, .ref saS, .int isSaved, .ref aHi, .ref taF, .ref aT])), (naS, .inr (2, [.ref naF, .ref naC, .long npat, .long ngoal])), (naC, .inl (cI, 128, .inl ncol)), (naF, .inr (0, [.ref naK, .int nmade, .int nmac])), (naK, .inl (cI, 6, .inl nks)), (lf, .inl (cI, 7, .inl vf)), (lh, .inl (cI, 64, .inl vh)), (lu, .inl (cI, 64, .inl vu)), (ld, .inl (cI, 64, .inl vd)), (lt, .inl (cI, 8, .inl vt))]) (va_A [(aR, .inr (4, [.ref naS, .ref saS, .int isSaved, .ref aHi, .ref taF, .ref aT])), (naS, .inr (2, [.ref naF, .ref naC, .long npat, .long ngoal])), (naC, .inl (cI, 128, .inl ncol)), (naF, .inr (0, [.ref naK, .int nmade, .int nmac])), (naK, .inl (cI, 6, .inl nks)), (lf, .inl (cI, 7, .inl vf)), (lh, .inl (cI, 64, .inl vh)), (lu, .inl (cI, 64, .inl vu)), (ld, .inl (cI, 64, .inl vd)), (lt, .inl (cI, 8, .inl vt))] sz)) 2 128 (va_A [(aR, .inr (4, [.ref naS, .ref saS, .int isSaved, .ref aHi, .ref taF, .ref aT])), (naS, .inr (2, [.ref naF, .ref naC, .long npat, .long ngoal])), (naC, .inl (cI, 128, .inl ncol)), (naF, .inr (0, [.ref naK, .int nmade, .int nmac])), (naK, .inl (cI, 6, .inl nks)), (lf, .inl (cI, 7, .inl vf)), (lh, .inl (cI, 64, .inl vh)), (lu, .inl (cI, 64, .inl vu)), (ld, .inl (cI, 64, .inl vd)), (lt, .inl (cI, 8, .inl vt))] sz) := by
  unfold wp_L_paper at hq
  refine Met.ofW (cc := cL_paper) (maxL := 18) (ret := (some .boolean)) (by decide) rfl ?_
  intro p e s m args below meth c s₁ B hml hv
  obtain ⟨rfl, hsz, hP, hK, hN, hD0⟩ := hv
  have hx := B.exec
  have hb := B.bytes
  have hr := B.returns
  have hts := atoms_spec (ws := wsL_paper) B.pre
  have hown : s.vm.findClass RL = some m.cls := findClass_of_methodNamed B.named
  have hlocks := B.notSynchronized
  subst hsz
  have hD := hD0.self (sz := s.heap.size)
  generalize hAe : va_A [(aR, .inr (4, [.ref naS, .ref saS, .int isSaved, .ref aHi, .ref taF, .ref aT])), (naS, .inr (2, [.ref naF, .ref naC, .long npat, .long ngoal])), (naC, .inl (cI, 128, .inl ncol)), (naF, .inr (0, [.ref naK, .int nmade, .int nmac])), (naK, .inl (cI, 6, .inl nks)), (lf, .inl (cI, 7, .inl vf)), (lh, .inl (cI, 64, .inl vh)), (lu, .inl (cI, 64, .inl vu)), (ld, .inl (cI, 64, .inl vd)), (lt, .inl (cI, 8, .inl vt))] s.heap.size = A at hD ⊢
  have hA : ∀ q : Nat, s.heap.size ≤ q → A q := fun q h => by rw [← hAe]; exact Or.inr h
  have hS : va_S A s.heap s.heap [] := va_S.rf
  have hl := lv_entry ([.ref aR, .ref lf, .ref lh, .ref lu, .ref ld, .ref lt] : List Value) (n := 18) (Nat.le_of_ble_eq_true rfl)
  rw [lg_entry_eq]
  generalize (lg_sl ([.ref aR, .ref lf, .ref lh, .ref lu, .ref ld, .ref lt] : List Value) ++ List.replicate (18 - (lg_sl ([.ref aR, .ref lf, .ref lh, .ref lu, .ref ld, .ref lt] : List Value)).length) Slot.unset).toArray = ls at hl ⊢
  have hl : lv_has ls 18 [(0, .ref aR), (1, .ref lf), (2, .ref lh), (3, .ref lu), (4, .ref ld), (5, .ref lt)] := hl
  refine gn_Q (hret := fun Q => ∀ (pc : Nat) (ls : Array Slot) (H : Heap) (locs : List Loc) (r : Int32) , decode cL_paper pc = .ok (.ireturn, 1) → va_P (dC, dI) vwCl [(aR, .inr (4, [.ref naS, .ref saS, .int isSaved, .ref aHi, .ref taF, .ref aT])), (naS, .inr (2, [.ref naF, .ref naC, .long npat, .long ngoal])), (naC, .inl (cI, 128, .inl ncol)), (naF, .inr (0, [.ref naK, .int nmade, .int nmac])), (naK, .inl (cI, 6, .inl nks)), (lf, .inl (cI, 7, .inl vf)), (lh, .inl (cI, 64, .inl vh)), (lu, .inl (cI, 64, .inl vu)), (ld, .inl (cI, 64, .inl vd)), (lt, .inl (cI, 8, .inl vt))] H → va_D A [(aR, .inr (4, [.ref naS, .ref saS, .int isSaved, .ref aHi, .ref taF, .ref aT])), (naS, .inr (2, [.ref naF, .ref naC, .long npat, .long ngoal])), (naC, .inl (cI, 128, .inl ncol)), (naF, .inr (0, [.ref naK, .int nmade, .int nmac])), (naK, .inl (cI, 6, .inl nks)), (lf, .inl (cI, 7, .inl vf)), (lh, .inl (cI, 64, .inl vh)), (lu, .inl (cI, 64, .inl vu)), (ld, .inl (cI, 64, .inl vd)), (lt, .inl (cI, 8, .inl vt))] → va_S A s.heap H locs → (r = 0 ∨ r = 1) → post r → W p l e ({ frames := 4, cells := 2, slots := 128, locals := 97 } : Room) s m ([.ref aR, .ref lf, .ref lh, .ref lu, .ref ld, .ref lt] : List Value).toArray below meth c H locs 2 128 Q (F0 m pc ls [.int r])) (fun Q hret => ?_) ?_
  rotate_left
  · intro pc ls H locs r hdg hP hD hS hz hpost
    exact W.zret (v := r) hx hb hr (gn_nz hz) (fun t ht hW => ⟨⟨r, (), rfl, hpost, by rw [ht]; exact hP, va_K.moved hW.alike hK, hD⟩, hS.F ht⟩) hS.2.2 hdg
  refine lv_aload_n hx hb dL_paper_0 rfl (lv_at hl 1 rfl) ?_
  refine lv_aload_n hx hb dL_paper_1 rfl (lv_at hl 1 rfl) ?_
  refine lv_bipush (v := 6) hx hb dL_paper_2 (by decide) ?_
  have hin := hq.1
  have hq := hq.2
  refine va_iald hx hb hK hP 5 0 rfl rfl hin dL_paper_4 ?_
  have hPc := hP.sub (ws' := [(lf, .inl (cI, 7, .inl vf))]) [5] rfl
  have hDc := hD.sub (ws' := [(lf, .inl (cI, 7, .inl vf))]) [5] (by decide) rfl
  have hFc := va_free (wc := [(lf, .inl (cI, 7, .inl vf))]) hD hS hA [5] rfl
  refine va_calli (va_runS (As := [.ref lf, .int (vf ((6 : Int32)).toNatClampNeg)]) (rest := []) ⟨hx, hb, hml, hown, hts⟩ (c_L_wide l dC dI cI cC cS lf _ vf (vf ((6 : Int32)).toNatClampNeg) hq) (va_cwS 2 hts gL_paper_L_wide rfl rfl rfl (by decide +kernel) ⟨Nat.le_of_ble_eq_true rfl, Nat.le_of_ble_eq_true rfl⟩) (gn_preS hPc hK hN hDc) rfl rfl hl.1 rfl (lv_room (Nat.le_of_ble_eq_true rfl)) dL_paper_5 ⟨Nat.zero_le _, Nat.zero_le _⟩) hS (fun q _ h => hFc q h) hFc (fun r_1 u t H1 locs ht hvm hq hB hz1 hk1 hS => ?_)
  obtain ⟨hP1, hK1, hD1⟩ := hB
  rw [ht] at hP1
  try dsimp only at hq
  have hP := gn_ro (wc := [(lf, .inl (cI, 7, .inl vf))]) hP hD [5] rfl hk1 hP1
  generalize H1 = H at hP hS ⊢
  refine lv_istore (lv' := [(6, .int r_1), (0, .ref aR), (1, .ref lf), (2, .ref lh), (3, .ref lu), (4, .ref ld), (5, .ref lt)]) hx hb dL_paper_8 hl (by decide) rfl (fun ls hl => ?_)
  refine lv_aload_n hx hb dL_paper_10 rfl (lv_at hl 2 rfl) ?_
  have hPc := hP.sub (ws' := [(lf, .inl (cI, 7, .inl vf))]) [5] rfl
  have hDc := hD.sub (ws' := [(lf, .inl (cI, 7, .inl vf))]) [5] (by decide) rfl
  have hFc := va_free (wc := [(lf, .inl (cI, 7, .inl vf))]) hD hS hA [5] rfl
  refine va_calli (va_runS (As := [.ref lf]) (rest := []) ⟨hx, hb, hml, hown, hts⟩ (c_L_layers l dC dI cI cC cS lf _ vf hq) (va_cwS 1 hts gL_paper_L_layers rfl rfl rfl (by decide +kernel) ⟨Nat.le_of_ble_eq_true rfl, Nat.le_of_ble_eq_true rfl⟩) (gn_preS hPc hK hN hDc) rfl rfl hl.1 rfl (lv_room (Nat.le_of_ble_eq_true rfl)) dL_paper_11 ⟨Nat.zero_le _, Nat.zero_le _⟩) hS (fun q _ h => hFc q h) hFc (fun r_2 u t H1 locs ht hvm hq hB hz1 hk1 hS => ?_)
  obtain ⟨hP1, hK1, hD1⟩ := hB
  rw [ht] at hP1
  try dsimp only at hq
  have hP := gn_ro (wc := [(lf, .inl (cI, 7, .inl vf))]) hP hD [5] rfl hk1 hP1
  generalize H1 = H at hP hS ⊢
  refine lv_istore (lv' := [(7, .int r_2), (6, .int r_1), (0, .ref aR), (1, .ref lf), (2, .ref lh), (3, .ref lu), (4, .ref ld), (5, .ref lt)]) hx hb dL_paper_14 hl (by decide) rfl (fun ls hl => ?_)
  refine lv_iconst (v := 0) hx hb dL_paper_16 (by decide) ?_
  refine lv_istore (lv' := [(8, .int (0 : Int32)), (7, .int r_2), (6, .int r_1), (0, .ref aR), (1, .ref lf), (2, .ref lh), (3, .ref lu), (4, .ref ld), (5, .ref lt)]) hx hb dL_paper_17 hl (by decide) rfl (fun ls hl => ?_)
  refine lv_iconst (v := 0) hx hb dL_paper_19 (by decide) ?_
  refine lv_istore (lv' := [(9, .int (0 : Int32)), (8, .int (0 : Int32)), (7, .int r_2), (6, .int r_1), (0, .ref aR), (1, .ref lf), (2, .ref lh), (3, .ref lu), (4, .ref ld), (5, .ref lt)]) hx hb dL_paper_20 hl (by decide) rfl (fun ls hl => ?_)
  refine lv_iconst (v := 0) hx hb dL_paper_22 (by decide) ?_
  refine lv_istore (lv' := [(10, .int (0 : Int32)), (9, .int (0 : Int32)), (8, .int (0 : Int32)), (7, .int r_2), (6, .int r_1), (0, .ref aR), (1, .ref lf), (2, .ref lh), (3, .ref lu), (4, .ref ld), (5, .ref lt)]) hx hb dL_paper_23 hl (by decide) rfl (fun ls hl => ?_)
  refine lv_iconst (v := 0) hx hb dL_paper_25 (by decide) ?_
  refine lv_istore (lv' := [(11, .int (0 : Int32)), (10, .int (0 : Int32)), (9, .int (0 : Int32)), (8, .int (0 : Int32)), (7, .int r_2), (6, .int r_1), (0, .ref aR), (1, .ref lf), (2, .ref lh), (3, .ref lu), (4, .ref ld), (5, .ref lt)]) hx hb dL_paper_26 hl (by decide) rfl (fun ls hl => ?_)
  refine lv_iconst (v := 0) hx hb dL_paper_28 (by decide) ?_
  refine lv_istore (lv' := [(12, .int (0 : Int32)), (11, .int (0 : Int32)), (10, .int (0 : Int32)), (9, .int (0 : Int32)), (8, .int (0 : Int32)), (7, .int r_2), (6, .int r_1), (0, .ref aR), (1, .ref lf), (2, .ref lh), (3, .ref lu), (4, .ref ld), (5, .ref lt)]) hx hb dL_paper_29 hl (by decide) rfl (fun ls hl => ?_)
  have hq := hq (fun (v8_3 : Int32) (v9_4 : Int32) (v10_5 : Int32) (v11_6 : Int32) (v12_7 : Int32) => ∀ (H : Heap) (locs : List Loc) (ls : Array Slot), va_P (dC, dI) vwCl [(aR, .inr (4, [.ref naS, .ref saS, .int isSaved, .ref aHi, .ref taF, .ref aT])), (naS, .inr (2, [.ref naF, .ref naC, .long npat, .long ngoal])), (naC, .inl (cI, 128, .inl ncol)), (naF, .inr (0, [.ref naK, .int nmade, .int nmac])), (naK, .inl (cI, 6, .inl nks)), (lf, .inl (cI, 7, .inl vf)), (lh, .inl (cI, 64, .inl vh)), (lu, .inl (cI, 64, .inl vu)), (ld, .inl (cI, 64, .inl vd)), (lt, .inl (cI, 8, .inl vt))] H → va_D A [(aR, .inr (4, [.ref naS, .ref saS, .int isSaved, .ref aHi, .ref taF, .ref aT])), (naS, .inr (2, [.ref naF, .ref naC, .long npat, .long ngoal])), (naC, .inl (cI, 128, .inl ncol)), (naF, .inr (0, [.ref naK, .int nmade, .int nmac])), (naK, .inl (cI, 6, .inl nks)), (lf, .inl (cI, 7, .inl vf)), (lh, .inl (cI, 64, .inl vh)), (lu, .inl (cI, 64, .inl vu)), (ld, .inl (cI, 64, .inl vd)), (lt, .inl (cI, 8, .inl vt))] → va_S A s.heap H locs → lv_has ls 18 [(0, .ref aR), (1, .ref lf), (2, .ref lh), (3, .ref lu), (4, .ref ld), (5, .ref lt), (6, .int r_1), (7, .int r_2), (8, .int v8_3), (9, .int v9_4), (10, .int v10_5), (11, .int v11_6), (12, .int v12_7)] → W p l e ({ frames := 4, cells := 2, slots := 128, locals := 97 } : Room) s m ([.ref aR, .ref lf, .ref lh, .ref lu, .ref ld, .ref lt] : List Value).toArray below meth c H locs 0 0 Q (F0 m 31 ls [])) (by
    intro v8_3 v9_4 v10_5 v11_6 v12_7 hq H locs ls hP hD hS hl
    refine lv_iload hx hb dL_paper_31 (lv_at hl 12 rfl) ?_
    refine lv_bipush (v := 64) hx hb dL_paper_33 (by decide) ?_
    refine lv_icmp_ge (tgt := 408) hx hb dL_paper_35 (by decide) (fun hc => ?_) (fun hc => ?_)
    · have hq := hq.1 hc
      refine lv_iconst (v := 0) hx hb dL_paper_408 (by decide) ?_
      refine lv_istore (lv' := [(12, .int (0 : Int32)), (0, .ref aR), (1, .ref lf), (2, .ref lh), (3, .ref lu), (4, .ref ld), (5, .ref lt), (6, .int r_1), (7, .int r_2), (8, .int v8_3), (9, .int v9_4), (10, .int v10_5), (11, .int v11_6)]) hx hb dL_paper_409 hl (by decide) rfl (fun ls hl => ?_)
      have hq := hq (fun (v12_8 : Int32) => ∀ (H : Heap) (locs : List Loc) (ls : Array Slot), va_P (dC, dI) vwCl [(aR, .inr (4, [.ref naS, .ref saS, .int isSaved, .ref aHi, .ref taF, .ref aT])), (naS, .inr (2, [.ref naF, .ref naC, .long npat, .long ngoal])), (naC, .inl (cI, 128, .inl ncol)), (naF, .inr (0, [.ref naK, .int nmade, .int nmac])), (naK, .inl (cI, 6, .inl nks)), (lf, .inl (cI, 7, .inl vf)), (lh, .inl (cI, 64, .inl vh)), (lu, .inl (cI, 64, .inl vu)), (ld, .inl (cI, 64, .inl vd)), (lt, .inl (cI, 8, .inl vt))] H → va_D A [(aR, .inr (4, [.ref naS, .ref saS, .int isSaved, .ref aHi, .ref taF, .ref aT])), (naS, .inr (2, [.ref naF, .ref naC, .long npat, .long ngoal])), (naC, .inl (cI, 128, .inl ncol)), (naF, .inr (0, [.ref naK, .int nmade, .int nmac])), (naK, .inl (cI, 6, .inl nks)), (lf, .inl (cI, 7, .inl vf)), (lh, .inl (cI, 64, .inl vh)), (lu, .inl (cI, 64, .inl vu)), (ld, .inl (cI, 64, .inl vd)), (lt, .inl (cI, 8, .inl vt))] → va_S A s.heap H locs → lv_has ls 18 [(0, .ref aR), (1, .ref lf), (2, .ref lh), (6, .int r_1), (7, .int r_2), (8, .int v8_3), (9, .int v9_4), (10, .int v10_5), (11, .int v11_6), (12, .int v12_8)] → W p l e ({ frames := 4, cells := 2, slots := 128, locals := 97 } : Room) s m ([.ref aR, .ref lf, .ref lh, .ref lu, .ref ld, .ref lt] : List Value).toArray below meth c H locs 0 0 Q (F0 m 411 ls [])) (by
        intro v12_8 hq H locs ls hP hD hS hl
        refine lv_iload hx hb dL_paper_411 (lv_at hl 9 rfl) ?_
        refine lv_bipush (v := 6) hx hb dL_paper_413 (by decide) ?_
        refine lv_icmp_ge (tgt := 452) hx hb dL_paper_415 (by decide) (fun hc => ?_) (fun hc => ?_)
        · have hq := hq.1 hc
          refine lv_aload_n hx hb dL_paper_452 rfl (lv_at hl 2 rfl) ?_
          have hPc := hP.sub (ws' := [(lh, .inl (cI, 64, .inl vh))]) [6] rfl
          have hDc := hD.sub (ws' := [(lh, .inl (cI, 64, .inl vh))]) [6] (by decide) rfl
          have hFc := va_free (wc := [(lh, .inl (cI, 64, .inl vh))]) hD hS hA [6] rfl
          refine va_calli (va_runS (As := [.ref lh]) (rest := []) ⟨hx, hb, hml, hown, hts⟩ (c_L_pieces l dC dI cI cC cS lh _ vh hq) (va_cwS 1 hts gL_paper_L_pieces rfl rfl rfl (by decide +kernel) ⟨Nat.le_of_ble_eq_true rfl, Nat.le_of_ble_eq_true rfl⟩) (gn_preS hPc hK hN hDc) rfl rfl hl.1 rfl (lv_room (Nat.le_of_ble_eq_true rfl)) dL_paper_453 ⟨Nat.le_of_ble_eq_true rfl, Nat.le_of_ble_eq_true rfl⟩) hS (fun q _ h => hFc q h) hFc (fun r_9 u t H1 locs ht hvm hq hB hz1 hk1 hS => ?_)
          obtain ⟨hP1, hK1, hD1⟩ := hB
          rw [ht] at hP1
          try dsimp only at hq
          have hP := gn_ro (wc := [(lh, .inl (cI, 64, .inl vh))]) hP hD [6] rfl hk1 hP1
          generalize H1 = H at hP hS ⊢
          refine W.widen (k := 2) (n := 128) (by omega) (by omega) ?_
          refine lv_istore (lv' := [(12, .int r_9), (0, .ref aR), (1, .ref lf), (2, .ref lh), (6, .int r_1), (7, .int r_2), (8, .int v8_3), (9, .int v9_4), (10, .int v10_5), (11, .int v11_6)]) hx hb dL_paper_456 hl (by decide) rfl (fun ls hl => ?_)
          refine lv_aload_n hx hb dL_paper_458 rfl (lv_at hl 1 rfl) ?_
          refine lv_iconst (v := 0) hx hb dL_paper_459 (by decide) ?_
          have hPc := hP.sub (ws' := [(aR, .inr (4, [.ref naS, .ref saS, .int isSaved, .ref aHi, .ref taF, .ref aT])), (naS, .inr (2, [.ref naF, .ref naC, .long npat, .long ngoal])), (naF, .inr (0, [.ref naK, .int nmade, .int nmac]))]) [0, 1, 3] rfl
          have hDc := hD.sub (ws' := [(aR, .inr (4, [.ref naS, .ref saS, .int isSaved, .ref aHi, .ref taF, .ref aT])), (naS, .inr (2, [.ref naF, .ref naC, .long npat, .long ngoal])), (naF, .inr (0, [.ref naK, .int nmade, .int nmac]))]) [0, 1, 3] (by decide) rfl
          have hFc := va_free (wc := [(aR, .inr (4, [.ref naS, .ref saS, .int isSaved, .ref aHi, .ref taF, .ref aT])), (naS, .inr (2, [.ref naF, .ref naC, .long npat, .long ngoal])), (naF, .inr (0, [.ref naK, .int nmade, .int nmac]))]) hD hS hA [0, 1, 3] rfl
          refine va_calli (va_runV (As := [.int (0 : Int32)]) (rest := []) ⟨hx, hb, hml, hown, hts⟩ (c_X5_size l dC dI cI cC cS aR naS naC naF naK saS aHi taF aT _ isSaved npat ngoal nmade nmac (0 : Int32) hq) (cwV 1 hts gL_paper_X5_size rfl rfl rfl (by decide +kernel) ⟨Nat.le_of_ble_eq_true rfl, Nat.le_of_ble_eq_true rfl⟩) (gn_preV hPc hK hN hDc (ci := 4) (q0 := 0) rfl rfl) rfl rfl hl.1 rfl (lv_room (Nat.le_of_ble_eq_true rfl)) dL_paper_460 ⟨Nat.le_of_ble_eq_true rfl, Nat.le_of_ble_eq_true rfl⟩) hS (fun q _ h => hFc q h) hFc (fun r_10 u t H1 locs ht hvm hq hB hz1 hk1 hS => ?_)
          obtain ⟨hP1, hK1, hD1⟩ := hB
          rw [ht] at hP1
          try dsimp only at hq
          have hP := gn_ro (wc := [(aR, .inr (4, [.ref naS, .ref saS, .int isSaved, .ref aHi, .ref taF, .ref aT])), (naS, .inr (2, [.ref naF, .ref naC, .long npat, .long ngoal])), (naF, .inr (0, [.ref naK, .int nmade, .int nmac]))]) hP hD [0, 1, 3] rfl hk1 hP1
          generalize H1 = H at hP hS ⊢
          refine lv_iload hx hb dL_paper_463 (lv_at hl 4 rfl) ?_
          have hq := hq (∀ (H : Heap) (locs : List Loc) (ls : Array Slot), va_P (dC, dI) vwCl [(aR, .inr (4, [.ref naS, .ref saS, .int isSaved, .ref aHi, .ref taF, .ref aT])), (naS, .inr (2, [.ref naF, .ref naC, .long npat, .long ngoal])), (naC, .inl (cI, 128, .inl ncol)), (naF, .inr (0, [.ref naK, .int nmade, .int nmac])), (naK, .inl (cI, 6, .inl nks)), (lf, .inl (cI, 7, .inl vf)), (lh, .inl (cI, 64, .inl vh)), (lu, .inl (cI, 64, .inl vu)), (ld, .inl (cI, 64, .inl vd)), (lt, .inl (cI, 8, .inl vt))] H → va_D A [(aR, .inr (4, [.ref naS, .ref saS, .int isSaved, .ref aHi, .ref taF, .ref aT])), (naS, .inr (2, [.ref naF, .ref naC, .long npat, .long ngoal])), (naC, .inl (cI, 128, .inl ncol)), (naF, .inr (0, [.ref naK, .int nmade, .int nmac])), (naK, .inl (cI, 6, .inl nks)), (lf, .inl (cI, 7, .inl vf)), (lh, .inl (cI, 64, .inl vh)), (lu, .inl (cI, 64, .inl vu)), (ld, .inl (cI, 64, .inl vd)), (lt, .inl (cI, 8, .inl vt))] → va_S A s.heap H locs → lv_has ls 18 [] → W p l e ({ frames := 4, cells := 2, slots := 128, locals := 97 } : Room) s m ([.ref aR, .ref lf, .ref lh, .ref lu, .ref ld, .ref lt] : List Value).toArray below meth c H locs 2 128 Q (F0 m 576 ls [])) (by
            intro  hq H locs ls hP hD hS hl
            refine lv_iconst (v := 0) hx hb dL_paper_576 (by decide) ?_
            have hz := hq.1
            have hq := hq.2
            exact hret _ _ _ _ _ dL_paper_577 hP hD hS hz hq)
          refine lv_icmp_ne (tgt := 576) hx hb dL_paper_465 (by decide) (fun hc => ?_) (fun hc => ?_)
          · have hq := hq.1 hc
            exact hq _ _ _ hP hD hS (lv_sub hl [] rfl)
          · have hq := hq.2 hc
            refine lv_aload_n hx hb dL_paper_468 rfl (lv_at hl 1 rfl) ?_
            refine lv_iconst (v := 1) hx hb dL_paper_469 (by decide) ?_
            have hPc := hP.sub (ws' := [(aR, .inr (4, [.ref naS, .ref saS, .int isSaved, .ref aHi, .ref taF, .ref aT])), (naS, .inr (2, [.ref naF, .ref naC, .long npat, .long ngoal])), (naF, .inr (0, [.ref naK, .int nmade, .int nmac]))]) [0, 1, 3] rfl
            have hDc := hD.sub (ws' := [(aR, .inr (4, [.ref naS, .ref saS, .int isSaved, .ref aHi, .ref taF, .ref aT])), (naS, .inr (2, [.ref naF, .ref naC, .long npat, .long ngoal])), (naF, .inr (0, [.ref naK, .int nmade, .int nmac]))]) [0, 1, 3] (by decide) rfl
            have hFc := va_free (wc := [(aR, .inr (4, [.ref naS, .ref saS, .int isSaved, .ref aHi, .ref taF, .ref aT])), (naS, .inr (2, [.ref naF, .ref naC, .long npat, .long ngoal])), (naF, .inr (0, [.ref naK, .int nmade, .int nmac]))]) hD hS hA [0, 1, 3] rfl
            refine va_calli (va_runV (As := [.int (1 : Int32)]) (rest := []) ⟨hx, hb, hml, hown, hts⟩ (c_X5_size l dC dI cI cC cS aR naS naC naF naK saS aHi taF aT _ isSaved npat ngoal nmade nmac (1 : Int32) hq) (cwV 1 hts gL_paper_X5_size rfl rfl rfl (by decide +kernel) ⟨Nat.le_of_ble_eq_true rfl, Nat.le_of_ble_eq_true rfl⟩) (gn_preV hPc hK hN hDc (ci := 4) (q0 := 0) rfl rfl) rfl rfl hl.1 rfl (lv_room (Nat.le_of_ble_eq_true rfl)) dL_paper_470 ⟨Nat.le_of_ble_eq_true rfl, Nat.le_of_ble_eq_true rfl⟩) hS (fun q _ h => hFc q h) hFc (fun r_11 u t H1 locs ht hvm hq hB hz1 hk1 hS => ?_)
            obtain ⟨hP1, hK1, hD1⟩ := hB
            rw [ht] at hP1
            try dsimp only at hq
            have hP := gn_ro (wc := [(aR, .inr (4, [.ref naS, .ref saS, .int isSaved, .ref aHi, .ref taF, .ref aT])), (naS, .inr (2, [.ref naF, .ref naC, .long npat, .long ngoal])), (naF, .inr (0, [.ref naK, .int nmade, .int nmac]))]) hP hD [0, 1, 3] rfl hk1 hP1
            generalize H1 = H at hP hS ⊢
            refine lv_aload_n hx hb dL_paper_473 rfl (lv_at hl 2 rfl) ?_
            refine lv_aload_n hx hb dL_paper_474 rfl (lv_at hl 2 rfl) ?_
            refine lv_bipush (v := 6) hx hb dL_paper_475 (by decide) ?_
            have hin := hq.1
            have hq := hq.2
            refine va_iald hx hb hK hP 5 0 rfl rfl hin dL_paper_477 ?_
            have hPc := hP.sub (ws' := [(lf, .inl (cI, 7, .inl vf))]) [5] rfl
            have hDc := hD.sub (ws' := [(lf, .inl (cI, 7, .inl vf))]) [5] (by decide) rfl
            have hFc := va_free (wc := [(lf, .inl (cI, 7, .inl vf))]) hD hS hA [5] rfl
            refine va_calli (va_runS (As := [.ref lf, .int (vf ((6 : Int32)).toNatClampNeg)]) (rest := [.int r_11]) ⟨hx, hb, hml, hown, hts⟩ (c_L_high l dC dI cI cC cS lf _ vf (vf ((6 : Int32)).toNatClampNeg) hq) (va_cwS 2 hts gL_paper_L_high rfl rfl rfl (by decide +kernel) ⟨Nat.le_of_ble_eq_true rfl, Nat.le_of_ble_eq_true rfl⟩) (gn_preS hPc hK hN hDc) rfl rfl hl.1 rfl (lv_room (Nat.le_of_ble_eq_true rfl)) dL_paper_478 ⟨Nat.le_of_ble_eq_true rfl, Nat.le_of_ble_eq_true rfl⟩) hS (fun q _ h => hFc q h) hFc (fun r_12 u t H1 locs ht hvm hq hB hz1 hk1 hS => ?_)
            obtain ⟨hP1, hK1, hD1⟩ := hB
            rw [ht] at hP1
            try dsimp only at hq
            have hP := gn_ro (wc := [(lf, .inl (cI, 7, .inl vf))]) hP hD [5] rfl hk1 hP1
            generalize H1 = H at hP hS ⊢
            refine lv_icmp_ne (tgt := 576) hx hb dL_paper_481 (by decide) (fun hc => ?_) (fun hc => ?_)
            · have hq := hq.1 hc
              exact hq _ _ _ hP hD hS (lv_sub hl [] rfl)
            · have hq := hq.2 hc
              refine lv_aload_n hx hb dL_paper_484 rfl (lv_at hl 1 rfl) ?_
              refine lv_iconst (v := 2) hx hb dL_paper_485 (by decide) ?_
              have hPc := hP.sub (ws' := [(aR, .inr (4, [.ref naS, .ref saS, .int isSaved, .ref aHi, .ref taF, .ref aT])), (naS, .inr (2, [.ref naF, .ref naC, .long npat, .long ngoal])), (naF, .inr (0, [.ref naK, .int nmade, .int nmac]))]) [0, 1, 3] rfl
              have hDc := hD.sub (ws' := [(aR, .inr (4, [.ref naS, .ref saS, .int isSaved, .ref aHi, .ref taF, .ref aT])), (naS, .inr (2, [.ref naF, .ref naC, .long npat, .long ngoal])), (naF, .inr (0, [.ref naK, .int nmade, .int nmac]))]) [0, 1, 3] (by decide) rfl
              have hFc := va_free (wc := [(aR, .inr (4, [.ref naS, .ref saS, .int isSaved, .ref aHi, .ref taF, .ref aT])), (naS, .inr (2, [.ref naF, .ref naC, .long npat, .long ngoal])), (naF, .inr (0, [.ref naK, .int nmade, .int nmac]))]) hD hS hA [0, 1, 3] rfl
              refine va_calli (va_runV (As := [.int (2 : Int32)]) (rest := []) ⟨hx, hb, hml, hown, hts⟩ (c_X5_size l dC dI cI cC cS aR naS naC naF naK saS aHi taF aT _ isSaved npat ngoal nmade nmac (2 : Int32) hq) (cwV 1 hts gL_paper_X5_size rfl rfl rfl (by decide +kernel) ⟨Nat.le_of_ble_eq_true rfl, Nat.le_of_ble_eq_true rfl⟩) (gn_preV hPc hK hN hDc (ci := 4) (q0 := 0) rfl rfl) rfl rfl hl.1 rfl (lv_room (Nat.le_of_ble_eq_true rfl)) dL_paper_486 ⟨Nat.le_of_ble_eq_true rfl, Nat.le_of_ble_eq_true rfl⟩) hS (fun q _ h => hFc q h) hFc (fun r_13 u t H1 locs ht hvm hq hB hz1 hk1 hS => ?_)
              obtain ⟨hP1, hK1, hD1⟩ := hB
              rw [ht] at hP1
              try dsimp only at hq
              have hP := gn_ro (wc := [(aR, .inr (4, [.ref naS, .ref saS, .int isSaved, .ref aHi, .ref taF, .ref aT])), (naS, .inr (2, [.ref naF, .ref naC, .long npat, .long ngoal])), (naF, .inr (0, [.ref naK, .int nmade, .int nmac]))]) hP hD [0, 1, 3] rfl hk1 hP1
              generalize H1 = H at hP hS ⊢
              refine lv_iload hx hb dL_paper_489 (lv_at hl 5 rfl) ?_
              refine lv_icmp_ne (tgt := 576) hx hb dL_paper_491 (by decide) (fun hc => ?_) (fun hc => ?_)
              · have hq := hq.1 hc
                exact hq _ _ _ hP hD hS (lv_sub hl [] rfl)
              · have hq := hq.2 hc
                refine lv_aload_n hx hb dL_paper_494 rfl (lv_at hl 1 rfl) ?_
                refine lv_iconst (v := 3) hx hb dL_paper_495 (by decide) ?_
                have hPc := hP.sub (ws' := [(aR, .inr (4, [.ref naS, .ref saS, .int isSaved, .ref aHi, .ref taF, .ref aT])), (naS, .inr (2, [.ref naF, .ref naC, .long npat, .long ngoal])), (naF, .inr (0, [.ref naK, .int nmade, .int nmac]))]) [0, 1, 3] rfl
                have hDc := hD.sub (ws' := [(aR, .inr (4, [.ref naS, .ref saS, .int isSaved, .ref aHi, .ref taF, .ref aT])), (naS, .inr (2, [.ref naF, .ref naC, .long npat, .long ngoal])), (naF, .inr (0, [.ref naK, .int nmade, .int nmac]))]) [0, 1, 3] (by decide) rfl
                have hFc := va_free (wc := [(aR, .inr (4, [.ref naS, .ref saS, .int isSaved, .ref aHi, .ref taF, .ref aT])), (naS, .inr (2, [.ref naF, .ref naC, .long npat, .long ngoal])), (naF, .inr (0, [.ref naK, .int nmade, .int nmac]))]) hD hS hA [0, 1, 3] rfl
                refine va_calli (va_runV (As := [.int (3 : Int32)]) (rest := []) ⟨hx, hb, hml, hown, hts⟩ (c_X5_size l dC dI cI cC cS aR naS naC naF naK saS aHi taF aT _ isSaved npat ngoal nmade nmac (3 : Int32) hq) (cwV 1 hts gL_paper_X5_size rfl rfl rfl (by decide +kernel) ⟨Nat.le_of_ble_eq_true rfl, Nat.le_of_ble_eq_true rfl⟩) (gn_preV hPc hK hN hDc (ci := 4) (q0 := 0) rfl rfl) rfl rfl hl.1 rfl (lv_room (Nat.le_of_ble_eq_true rfl)) dL_paper_496 ⟨Nat.le_of_ble_eq_true rfl, Nat.le_of_ble_eq_true rfl⟩) hS (fun q _ h => hFc q h) hFc (fun r_14 u t H1 locs ht hvm hq hB hz1 hk1 hS => ?_)
                obtain ⟨hP1, hK1, hD1⟩ := hB
                rw [ht] at hP1
                try dsimp only at hq
                have hP := gn_ro (wc := [(aR, .inr (4, [.ref naS, .ref saS, .int isSaved, .ref aHi, .ref taF, .ref aT])), (naS, .inr (2, [.ref naF, .ref naC, .long npat, .long ngoal])), (naF, .inr (0, [.ref naK, .int nmade, .int nmac]))]) hP hD [0, 1, 3] rfl hk1 hP1
                generalize H1 = H at hP hS ⊢
                refine lv_aload_n hx hb dL_paper_499 rfl (lv_at hl 2 rfl) ?_
                refine lv_bipush (v := 6) hx hb dL_paper_500 (by decide) ?_
                have hin := hq.1
                have hq := hq.2
                refine va_iald hx hb hK hP 5 0 rfl rfl hin dL_paper_502 ?_
                refine lv_icmp_ne (tgt := 576) hx hb dL_paper_503 (by decide) (fun hc => ?_) (fun hc => ?_)
                · have hq := hq.1 hc
                  exact hq _ _ _ hP hD hS (lv_sub hl [] rfl)
                · have hq := hq.2 hc
                  refine lv_aload_n hx hb dL_paper_506 rfl (lv_at hl 1 rfl) ?_
                  refine lv_iconst (v := 0) hx hb dL_paper_507 (by decide) ?_
                  have hPc := hP.sub (ws' := [(aR, .inr (4, [.ref naS, .ref saS, .int isSaved, .ref aHi, .ref taF, .ref aT])), (naS, .inr (2, [.ref naF, .ref naC, .long npat, .long ngoal])), (naC, .inl (cI, 128, .inl ncol))]) [0, 1, 2] rfl
                  have hDc := hD.sub (ws' := [(aR, .inr (4, [.ref naS, .ref saS, .int isSaved, .ref aHi, .ref taF, .ref aT])), (naS, .inr (2, [.ref naF, .ref naC, .long npat, .long ngoal])), (naC, .inl (cI, 128, .inl ncol))]) [0, 1, 2] (by decide) rfl
                  have hFc := va_free (wc := [(aR, .inr (4, [.ref naS, .ref saS, .int isSaved, .ref aHi, .ref taF, .ref aT])), (naS, .inr (2, [.ref naF, .ref naC, .long npat, .long ngoal])), (naC, .inl (cI, 128, .inl ncol))]) hD hS hA [0, 1, 2] rfl
                  refine va_calli (va_runV (As := [.int (0 : Int32)]) (rest := []) ⟨hx, hb, hml, hown, hts⟩ (c_X5_count l dC dI cI cC cS aR naS naC naF saS aHi taF aT _ isSaved npat ngoal ncol (0 : Int32) hq) (cwV 1 hts gL_paper_X5_count rfl rfl rfl (by decide +kernel) ⟨Nat.le_of_ble_eq_true rfl, Nat.le_of_ble_eq_true rfl⟩) (gn_preV hPc hK hN hDc (ci := 4) (q0 := 0) rfl rfl) rfl rfl hl.1 rfl (lv_room (Nat.le_of_ble_eq_true rfl)) dL_paper_508 ⟨Nat.le_of_ble_eq_true rfl, Nat.le_of_ble_eq_true rfl⟩) hS (fun q _ h => hFc q h) hFc (fun r_15 u t H1 locs ht hvm hq hB hz1 hk1 hS => ?_)
                  obtain ⟨hP1, hK1, hD1⟩ := hB
                  rw [ht] at hP1
                  try dsimp only at hq
                  have hP := gn_ro (wc := [(aR, .inr (4, [.ref naS, .ref saS, .int isSaved, .ref aHi, .ref taF, .ref aT])), (naS, .inr (2, [.ref naF, .ref naC, .long npat, .long ngoal])), (naC, .inl (cI, 128, .inl ncol))]) hP hD [0, 1, 2] rfl hk1 hP1
                  generalize H1 = H at hP hS ⊢
                  refine lv_iload hx hb dL_paper_511 (lv_at hl 6 rfl) ?_
                  refine lv_icmp_ne (tgt := 576) hx hb dL_paper_513 (by decide) (fun hc => ?_) (fun hc => ?_)
                  · have hq := hq.1 hc
                    exact hq _ _ _ hP hD hS (lv_sub hl [] rfl)
                  · have hq := hq.2 hc
                    refine lv_aload_n hx hb dL_paper_516 rfl (lv_at hl 1 rfl) ?_
                    refine lv_iconst (v := 1) hx hb dL_paper_517 (by decide) ?_
                    have hPc := hP.sub (ws' := [(aR, .inr (4, [.ref naS, .ref saS, .int isSaved, .ref aHi, .ref taF, .ref aT])), (naS, .inr (2, [.ref naF, .ref naC, .long npat, .long ngoal])), (naC, .inl (cI, 128, .inl ncol))]) [0, 1, 2] rfl
                    have hDc := hD.sub (ws' := [(aR, .inr (4, [.ref naS, .ref saS, .int isSaved, .ref aHi, .ref taF, .ref aT])), (naS, .inr (2, [.ref naF, .ref naC, .long npat, .long ngoal])), (naC, .inl (cI, 128, .inl ncol))]) [0, 1, 2] (by decide) rfl
                    have hFc := va_free (wc := [(aR, .inr (4, [.ref naS, .ref saS, .int isSaved, .ref aHi, .ref taF, .ref aT])), (naS, .inr (2, [.ref naF, .ref naC, .long npat, .long ngoal])), (naC, .inl (cI, 128, .inl ncol))]) hD hS hA [0, 1, 2] rfl
                    refine va_calli (va_runV (As := [.int (1 : Int32)]) (rest := []) ⟨hx, hb, hml, hown, hts⟩ (c_X5_count l dC dI cI cC cS aR naS naC naF saS aHi taF aT _ isSaved npat ngoal ncol (1 : Int32) hq) (cwV 1 hts gL_paper_X5_count rfl rfl rfl (by decide +kernel) ⟨Nat.le_of_ble_eq_true rfl, Nat.le_of_ble_eq_true rfl⟩) (gn_preV hPc hK hN hDc (ci := 4) (q0 := 0) rfl rfl) rfl rfl hl.1 rfl (lv_room (Nat.le_of_ble_eq_true rfl)) dL_paper_518 ⟨Nat.le_of_ble_eq_true rfl, Nat.le_of_ble_eq_true rfl⟩) hS (fun q _ h => hFc q h) hFc (fun r_16 u t H1 locs ht hvm hq hB hz1 hk1 hS => ?_)
                    obtain ⟨hP1, hK1, hD1⟩ := hB
                    rw [ht] at hP1
                    try dsimp only at hq
                    have hP := gn_ro (wc := [(aR, .inr (4, [.ref naS, .ref saS, .int isSaved, .ref aHi, .ref taF, .ref aT])), (naS, .inr (2, [.ref naF, .ref naC, .long npat, .long ngoal])), (naC, .inl (cI, 128, .inl ncol))]) hP hD [0, 1, 2] rfl hk1 hP1
                    generalize H1 = H at hP hS ⊢
                    refine lv_iload hx hb dL_paper_521 (lv_at hl 0 rfl) ?_
                    refine lv_bipush (v := 100) hx hb dL_paper_523 (by decide) ?_
                    refine lv_irem hx hb dL_paper_525 (by decide) ?_
                    refine lv_icmp_ne (tgt := 576) hx hb dL_paper_526 (by decide) (fun hc => ?_) (fun hc => ?_)
                    · have hq := hq.1 hc
                      exact hq _ _ _ hP hD hS (lv_sub hl [] rfl)
                    · have hq := hq.2 hc
                      refine lv_aload_n hx hb dL_paper_529 rfl (lv_at hl 1 rfl) ?_
                      refine lv_iconst (v := 2) hx hb dL_paper_530 (by decide) ?_
                      have hPc := hP.sub (ws' := [(aR, .inr (4, [.ref naS, .ref saS, .int isSaved, .ref aHi, .ref taF, .ref aT])), (naS, .inr (2, [.ref naF, .ref naC, .long npat, .long ngoal])), (naC, .inl (cI, 128, .inl ncol))]) [0, 1, 2] rfl
                      have hDc := hD.sub (ws' := [(aR, .inr (4, [.ref naS, .ref saS, .int isSaved, .ref aHi, .ref taF, .ref aT])), (naS, .inr (2, [.ref naF, .ref naC, .long npat, .long ngoal])), (naC, .inl (cI, 128, .inl ncol))]) [0, 1, 2] (by decide) rfl
                      have hFc := va_free (wc := [(aR, .inr (4, [.ref naS, .ref saS, .int isSaved, .ref aHi, .ref taF, .ref aT])), (naS, .inr (2, [.ref naF, .ref naC, .long npat, .long ngoal])), (naC, .inl (cI, 128, .inl ncol))]) hD hS hA [0, 1, 2] rfl
                      refine va_calli (va_runV (As := [.int (2 : Int32)]) (rest := []) ⟨hx, hb, hml, hown, hts⟩ (c_X5_count l dC dI cI cC cS aR naS naC naF saS aHi taF aT _ isSaved npat ngoal ncol (2 : Int32) hq) (cwV 1 hts gL_paper_X5_count rfl rfl rfl (by decide +kernel) ⟨Nat.le_of_ble_eq_true rfl, Nat.le_of_ble_eq_true rfl⟩) (gn_preV hPc hK hN hDc (ci := 4) (q0 := 0) rfl rfl) rfl rfl hl.1 rfl (lv_room (Nat.le_of_ble_eq_true rfl)) dL_paper_531 ⟨Nat.le_of_ble_eq_true rfl, Nat.le_of_ble_eq_true rfl⟩) hS (fun q _ h => hFc q h) hFc (fun r_17 u t H1 locs ht hvm hq hB hz1 hk1 hS => ?_)
                      obtain ⟨hP1, hK1, hD1⟩ := hB
                      rw [ht] at hP1
                      try dsimp only at hq
                      have hP := gn_ro (wc := [(aR, .inr (4, [.ref naS, .ref saS, .int isSaved, .ref aHi, .ref taF, .ref aT])), (naS, .inr (2, [.ref naF, .ref naC, .long npat, .long ngoal])), (naC, .inl (cI, 128, .inl ncol))]) hP hD [0, 1, 2] rfl hk1 hP1
                      generalize H1 = H at hP hS ⊢
                      refine lv_iload hx hb dL_paper_534 (lv_at hl 0 rfl) ?_
                      refine lv_bipush (v := 100) hx hb dL_paper_536 (by decide) ?_
                      refine lv_idiv hx hb dL_paper_538 (by decide) ?_
                      refine lv_icmp_ne (tgt := 576) hx hb dL_paper_539 (by decide) (fun hc => ?_) (fun hc => ?_)
                      · have hq := hq.1 hc
                        exact hq _ _ _ hP hD hS (lv_sub hl [] rfl)
                      · have hq := hq.2 hc
                        refine lv_aload_n hx hb dL_paper_542 rfl (lv_at hl 1 rfl) ?_
                        refine lv_iconst (v := 3) hx hb dL_paper_543 (by decide) ?_
                        have hPc := hP.sub (ws' := [(aR, .inr (4, [.ref naS, .ref saS, .int isSaved, .ref aHi, .ref taF, .ref aT])), (naS, .inr (2, [.ref naF, .ref naC, .long npat, .long ngoal])), (naC, .inl (cI, 128, .inl ncol))]) [0, 1, 2] rfl
                        have hDc := hD.sub (ws' := [(aR, .inr (4, [.ref naS, .ref saS, .int isSaved, .ref aHi, .ref taF, .ref aT])), (naS, .inr (2, [.ref naF, .ref naC, .long npat, .long ngoal])), (naC, .inl (cI, 128, .inl ncol))]) [0, 1, 2] (by decide) rfl
                        have hFc := va_free (wc := [(aR, .inr (4, [.ref naS, .ref saS, .int isSaved, .ref aHi, .ref taF, .ref aT])), (naS, .inr (2, [.ref naF, .ref naC, .long npat, .long ngoal])), (naC, .inl (cI, 128, .inl ncol))]) hD hS hA [0, 1, 2] rfl
                        refine va_calli (va_runV (As := [.int (3 : Int32)]) (rest := []) ⟨hx, hb, hml, hown, hts⟩ (c_X5_count l dC dI cI cC cS aR naS naC naF saS aHi taF aT _ isSaved npat ngoal ncol (3 : Int32) hq) (cwV 1 hts gL_paper_X5_count rfl rfl rfl (by decide +kernel) ⟨Nat.le_of_ble_eq_true rfl, Nat.le_of_ble_eq_true rfl⟩) (gn_preV hPc hK hN hDc (ci := 4) (q0 := 0) rfl rfl) rfl rfl hl.1 rfl (lv_room (Nat.le_of_ble_eq_true rfl)) dL_paper_544 ⟨Nat.le_of_ble_eq_true rfl, Nat.le_of_ble_eq_true rfl⟩) hS (fun q _ h => hFc q h) hFc (fun r_18 u t H1 locs ht hvm hq hB hz1 hk1 hS => ?_)
                        obtain ⟨hP1, hK1, hD1⟩ := hB
                        rw [ht] at hP1
                        try dsimp only at hq
                        have hP := gn_ro (wc := [(aR, .inr (4, [.ref naS, .ref saS, .int isSaved, .ref aHi, .ref taF, .ref aT])), (naS, .inr (2, [.ref naF, .ref naC, .long npat, .long ngoal])), (naC, .inl (cI, 128, .inl ncol))]) hP hD [0, 1, 2] rfl hk1 hP1
                        generalize H1 = H at hP hS ⊢
                        refine lv_iload hx hb dL_paper_547 (lv_at hl 7 rfl) ?_
                        refine lv_icmp_ne (tgt := 576) hx hb dL_paper_549 (by decide) (fun hc => ?_) (fun hc => ?_)
                        · have hq := hq.1 hc
                          exact hq _ _ _ hP hD hS (lv_sub hl [] rfl)
                        · have hq := hq.2 hc
                          refine lv_aload_n hx hb dL_paper_552 rfl (lv_at hl 1 rfl) ?_
                          refine lv_iconst (v := 4) hx hb dL_paper_553 (by decide) ?_
                          have hPc := hP.sub (ws' := [(aR, .inr (4, [.ref naS, .ref saS, .int isSaved, .ref aHi, .ref taF, .ref aT])), (naS, .inr (2, [.ref naF, .ref naC, .long npat, .long ngoal])), (naC, .inl (cI, 128, .inl ncol))]) [0, 1, 2] rfl
                          have hDc := hD.sub (ws' := [(aR, .inr (4, [.ref naS, .ref saS, .int isSaved, .ref aHi, .ref taF, .ref aT])), (naS, .inr (2, [.ref naF, .ref naC, .long npat, .long ngoal])), (naC, .inl (cI, 128, .inl ncol))]) [0, 1, 2] (by decide) rfl
                          have hFc := va_free (wc := [(aR, .inr (4, [.ref naS, .ref saS, .int isSaved, .ref aHi, .ref taF, .ref aT])), (naS, .inr (2, [.ref naF, .ref naC, .long npat, .long ngoal])), (naC, .inl (cI, 128, .inl ncol))]) hD hS hA [0, 1, 2] rfl
                          refine va_calli (va_runV (As := [.int (4 : Int32)]) (rest := []) ⟨hx, hb, hml, hown, hts⟩ (c_X5_count l dC dI cI cC cS aR naS naC naF saS aHi taF aT _ isSaved npat ngoal ncol (4 : Int32) hq) (cwV 1 hts gL_paper_X5_count rfl rfl rfl (by decide +kernel) ⟨Nat.le_of_ble_eq_true rfl, Nat.le_of_ble_eq_true rfl⟩) (gn_preV hPc hK hN hDc (ci := 4) (q0 := 0) rfl rfl) rfl rfl hl.1 rfl (lv_room (Nat.le_of_ble_eq_true rfl)) dL_paper_554 ⟨Nat.le_of_ble_eq_true rfl, Nat.le_of_ble_eq_true rfl⟩) hS (fun q _ h => hFc q h) hFc (fun r_19 u t H1 locs ht hvm hq hB hz1 hk1 hS => ?_)
                          obtain ⟨hP1, hK1, hD1⟩ := hB
                          rw [ht] at hP1
                          try dsimp only at hq
                          have hP := gn_ro (wc := [(aR, .inr (4, [.ref naS, .ref saS, .int isSaved, .ref aHi, .ref taF, .ref aT])), (naS, .inr (2, [.ref naF, .ref naC, .long npat, .long ngoal])), (naC, .inl (cI, 128, .inl ncol))]) hP hD [0, 1, 2] rfl hk1 hP1
                          generalize H1 = H at hP hS ⊢
                          refine lv_iload hx hb dL_paper_557 (lv_at hl 8 rfl) ?_
                          refine lv_icmp_ne (tgt := 576) hx hb dL_paper_559 (by decide) (fun hc => ?_) (fun hc => ?_)
                          · have hq := hq.1 hc
                            exact hq _ _ _ hP hD hS (lv_sub hl [] rfl)
                          · have hq := hq.2 hc
                            refine lv_aload_n hx hb dL_paper_562 rfl (lv_at hl 1 rfl) ?_
                            refine lv_iconst (v := 5) hx hb dL_paper_563 (by decide) ?_
                            have hPc := hP.sub (ws' := [(aR, .inr (4, [.ref naS, .ref saS, .int isSaved, .ref aHi, .ref taF, .ref aT])), (naS, .inr (2, [.ref naF, .ref naC, .long npat, .long ngoal])), (naC, .inl (cI, 128, .inl ncol))]) [0, 1, 2] rfl
                            have hDc := hD.sub (ws' := [(aR, .inr (4, [.ref naS, .ref saS, .int isSaved, .ref aHi, .ref taF, .ref aT])), (naS, .inr (2, [.ref naF, .ref naC, .long npat, .long ngoal])), (naC, .inl (cI, 128, .inl ncol))]) [0, 1, 2] (by decide) rfl
                            have hFc := va_free (wc := [(aR, .inr (4, [.ref naS, .ref saS, .int isSaved, .ref aHi, .ref taF, .ref aT])), (naS, .inr (2, [.ref naF, .ref naC, .long npat, .long ngoal])), (naC, .inl (cI, 128, .inl ncol))]) hD hS hA [0, 1, 2] rfl
                            refine va_calli (va_runV (As := [.int (5 : Int32)]) (rest := []) ⟨hx, hb, hml, hown, hts⟩ (c_X5_count l dC dI cI cC cS aR naS naC naF saS aHi taF aT _ isSaved npat ngoal ncol (5 : Int32) hq) (cwV 1 hts gL_paper_X5_count rfl rfl rfl (by decide +kernel) ⟨Nat.le_of_ble_eq_true rfl, Nat.le_of_ble_eq_true rfl⟩) (gn_preV hPc hK hN hDc (ci := 4) (q0 := 0) rfl rfl) rfl rfl hl.1 rfl (lv_room (Nat.le_of_ble_eq_true rfl)) dL_paper_564 ⟨Nat.le_of_ble_eq_true rfl, Nat.le_of_ble_eq_true rfl⟩) hS (fun q _ h => hFc q h) hFc (fun r_20 u t H1 locs ht hvm hq hB hz1 hk1 hS => ?_)
                            obtain ⟨hP1, hK1, hD1⟩ := hB
                            rw [ht] at hP1
                            try dsimp only at hq
                            have hP := gn_ro (wc := [(aR, .inr (4, [.ref naS, .ref saS, .int isSaved, .ref aHi, .ref taF, .ref aT])), (naS, .inr (2, [.ref naF, .ref naC, .long npat, .long ngoal])), (naC, .inl (cI, 128, .inl ncol))]) hP hD [0, 1, 2] rfl hk1 hP1
                            generalize H1 = H at hP hS ⊢
                            refine lv_iload hx hb dL_paper_567 (lv_at hl 9 rfl) ?_
                            refine lv_icmp_ne (tgt := 576) hx hb dL_paper_569 (by decide) (fun hc => ?_) (fun hc => ?_)
                            · have hq := hq.1 hc
                              exact hq _ _ _ hP hD hS (lv_sub hl [] rfl)
                            · have hq := hq.2 hc
                              refine lv_iconst (v := 1) hx hb dL_paper_572 (by decide) ?_
                              refine lv_goto (tgt := 577) hx hb dL_paper_573 (by decide) ?_
                              have hz := hq.1
                              have hq := hq.2
                              exact hret _ _ _ _ _ dL_paper_577 hP hD hS hz hq
        · have hq := hq.2 hc
          refine lv_aload_n hx hb dL_paper_418 rfl (lv_at hl 0 rfl) ?_
          refine lv_iload hx hb dL_paper_419 (lv_at hl 9 rfl) ?_
          have hPc := hP.sub (ws' := [(aR, .inr (4, [.ref naS, .ref saS, .int isSaved, .ref aHi, .ref taF, .ref aT])), (naS, .inr (2, [.ref naF, .ref naC, .long npat, .long ngoal])), (naF, .inr (0, [.ref naK, .int nmade, .int nmac])), (naK, .inl (cI, 6, .inl nks))]) [0, 1, 3, 4] rfl
          have hDc := hD.sub (ws' := [(aR, .inr (4, [.ref naS, .ref saS, .int isSaved, .ref aHi, .ref taF, .ref aT])), (naS, .inr (2, [.ref naF, .ref naC, .long npat, .long ngoal])), (naF, .inr (0, [.ref naK, .int nmade, .int nmac])), (naK, .inl (cI, 6, .inl nks))]) [0, 1, 3, 4] (by decide) rfl
          have hFc := va_free (wc := [(aR, .inr (4, [.ref naS, .ref saS, .int isSaved, .ref aHi, .ref taF, .ref aT])), (naS, .inr (2, [.ref naF, .ref naC, .long npat, .long ngoal])), (naF, .inr (0, [.ref naK, .int nmade, .int nmac])), (naK, .inl (cI, 6, .inl nks))]) hD hS hA [0, 1, 3, 4] rfl
          refine va_calli (va_runV (As := [.int v12_8]) (rest := []) ⟨hx, hb, hml, hown, hts⟩ (c_X5_foldAt l dC dI cI cC cS aR naS naC naF naK saS aHi taF aT _ isSaved npat ngoal nmade nmac nks v12_8 hq) (cwV 1 hts gL_paper_X5_foldAt rfl rfl rfl (by decide +kernel) ⟨Nat.le_of_ble_eq_true rfl, Nat.le_of_ble_eq_true rfl⟩) (gn_preV hPc hK hN hDc (ci := 4) (q0 := 0) rfl rfl) rfl rfl hl.1 rfl (lv_room (Nat.le_of_ble_eq_true rfl)) dL_paper_421 ⟨Nat.zero_le _, Nat.zero_le _⟩) hS (fun q _ h => hFc q h) hFc (fun r_21 u t H1 locs ht hvm hq hB hz1 hk1 hS => ?_)
          obtain ⟨hP1, hK1, hD1⟩ := hB
          rw [ht] at hP1
          try dsimp only at hq
          have hP := gn_ro (wc := [(aR, .inr (4, [.ref naS, .ref saS, .int isSaved, .ref aHi, .ref taF, .ref aT])), (naS, .inr (2, [.ref naF, .ref naC, .long npat, .long ngoal])), (naF, .inr (0, [.ref naK, .int nmade, .int nmac])), (naK, .inl (cI, 6, .inl nks))]) hP hD [0, 1, 3, 4] rfl hk1 hP1
          generalize H1 = H at hP hS ⊢
          refine lv_iload hx hb dL_paper_424 (lv_at hl 9 rfl) ?_
          refine lv_aload_n hx hb dL_paper_426 rfl (lv_at hl 1 rfl) ?_
          refine lv_bipush (v := 6) hx hb dL_paper_427 (by decide) ?_
          have hin := hq.1
          have hq := hq.2
          refine va_iald hx hb hK hP 5 0 rfl rfl hin dL_paper_429 ?_
          have hq := hq (fun (t_22 : Int32) => ∀ (H : Heap) (locs : List Loc) (ls : Array Slot), va_P (dC, dI) vwCl [(aR, .inr (4, [.ref naS, .ref saS, .int isSaved, .ref aHi, .ref taF, .ref aT])), (naS, .inr (2, [.ref naF, .ref naC, .long npat, .long ngoal])), (naC, .inl (cI, 128, .inl ncol)), (naF, .inr (0, [.ref naK, .int nmade, .int nmac])), (naK, .inl (cI, 6, .inl nks)), (lf, .inl (cI, 7, .inl vf)), (lh, .inl (cI, 64, .inl vh)), (lu, .inl (cI, 64, .inl vu)), (ld, .inl (cI, 64, .inl vd)), (lt, .inl (cI, 8, .inl vt))] H → va_D A [(aR, .inr (4, [.ref naS, .ref saS, .int isSaved, .ref aHi, .ref taF, .ref aT])), (naS, .inr (2, [.ref naF, .ref naC, .long npat, .long ngoal])), (naC, .inl (cI, 128, .inl ncol)), (naF, .inr (0, [.ref naK, .int nmade, .int nmac])), (naK, .inl (cI, 6, .inl nks)), (lf, .inl (cI, 7, .inl vf)), (lh, .inl (cI, 64, .inl vh)), (lu, .inl (cI, 64, .inl vu)), (ld, .inl (cI, 64, .inl vd)), (lt, .inl (cI, 8, .inl vt))] → va_S A s.heap H locs → lv_has ls 18 [(0, .ref aR), (1, .ref lf), (2, .ref lh), (6, .int r_1), (7, .int r_2), (8, .int v8_3), (9, .int v9_4), (10, .int v10_5), (11, .int v11_6), (12, .int v12_8)] → W p l e ({ frames := 4, cells := 2, slots := 128, locals := 97 } : Room) s m ([.ref aR, .ref lf, .ref lh, .ref lu, .ref ld, .ref lt] : List Value).toArray below meth c H locs 0 0 Q (F0 m 441 ls [.int t_22, .int r_21])) (by
            intro t_22 hq H locs ls hP hD hS hl
            refine lv_icmp_eq (tgt := 446) hx hb dL_paper_441 (by decide) (fun hc => ?_) (fun hc => ?_)
            · have hq := hq.1 hc
              refine lv_iinc (v := (v12_8 + (1 : Int32))) (lv' := [(12, .int (v12_8 + (1 : Int32))), (0, .ref aR), (1, .ref lf), (2, .ref lh), (6, .int r_1), (7, .int r_2), (8, .int v8_3), (9, .int v9_4), (10, .int v10_5), (11, .int v11_6)]) hx hb dL_paper_446 hl (k := 9) rfl rfl (by decide) rfl (fun ls hl => ?_)
              refine lv_goto (tgt := 411) hx hb dL_paper_449 (by decide) ?_
              exact hq _ _ _ hP hD hS (lv_sub hl [1, 2, 3, 4, 5, 6, 7, 8, 9, 0] rfl)
            · have hq := hq.2 hc
              refine lv_iconst (v := 0) hx hb dL_paper_444 (by decide) ?_
              refine W.widen (k := 2) (n := 128) (by omega) (by omega) ?_
              have hz := hq.1
              have hq := hq.2
              exact hret _ _ _ _ _ dL_paper_445 hP hD hS hz hq)
          refine lv_icmp_ge (tgt := 440) hx hb dL_paper_430 (by decide) (fun hc => ?_) (fun hc => ?_)
          · have hq := hq.1 hc
            refine lv_iconst (v := -1) hx hb dL_paper_440 (by decide) ?_
            exact hq _ _ _ hP hD hS (lv_sub hl [0, 1, 2, 3, 4, 5, 6, 7, 8, 9] rfl)
          · have hq := hq.2 hc
            refine lv_aload_n hx hb dL_paper_433 rfl (lv_at hl 1 rfl) ?_
            refine lv_iload hx hb dL_paper_434 (lv_at hl 9 rfl) ?_
            have hin := hq.1
            have hq := hq.2
            refine va_iald hx hb hK hP 5 0 rfl rfl hin dL_paper_436 ?_
            refine lv_goto (tgt := 441) hx hb dL_paper_437 (by decide) ?_
            exact hq _ _ _ hP hD hS (lv_sub hl [0, 1, 2, 3, 4, 5, 6, 7, 8, 9] rfl))
      exact hq _ _ _ hP hD hS (lv_sub hl [1, 2, 3, 7, 8, 9, 10, 11, 12, 0] rfl)
    · have hq := hq.2 hc
      refine lv_aload_n hx hb dL_paper_38 rfl (lv_at hl 1 rfl) ?_
      refine lv_iload hx hb dL_paper_39 (lv_at hl 12 rfl) ?_
      have hPc := hP.sub (ws' := [(lf, .inl (cI, 7, .inl vf))]) [5] rfl
      have hDc := hD.sub (ws' := [(lf, .inl (cI, 7, .inl vf))]) [5] (by decide) rfl
      have hFc := va_free (wc := [(lf, .inl (cI, 7, .inl vf))]) hD hS hA [5] rfl
      refine va_calli (va_runS (As := [.ref lf, .int v12_7]) (rest := []) ⟨hx, hb, hml, hown, hts⟩ (c_L_where l dC dI cI cC cS lf _ vf v12_7 hq) (va_cwS 2 hts gL_paper_L_where rfl rfl rfl (by decide +kernel) ⟨Nat.le_of_ble_eq_true rfl, Nat.le_of_ble_eq_true rfl⟩) (gn_preS hPc hK hN hDc) rfl rfl hl.1 rfl (lv_room (Nat.le_of_ble_eq_true rfl)) dL_paper_41 ⟨Nat.zero_le _, Nat.zero_le _⟩) hS (fun q _ h => hFc q h) hFc (fun r_23 u t H1 locs ht hvm hq hB hz1 hk1 hS => ?_)
      obtain ⟨hP1, hK1, hD1⟩ := hB
      rw [ht] at hP1
      try dsimp only at hq
      have hP := gn_ro (wc := [(lf, .inl (cI, 7, .inl vf))]) hP hD [5] rfl hk1 hP1
      generalize H1 = H at hP hS ⊢
      refine lv_istore (lv' := [(13, .int r_23), (0, .ref aR), (1, .ref lf), (2, .ref lh), (3, .ref lu), (4, .ref ld), (5, .ref lt), (6, .int r_1), (7, .int r_2), (8, .int v8_3), (9, .int v9_4), (10, .int v10_5), (11, .int v11_6), (12, .int v12_7)]) hx hb dL_paper_44 hl (by decide) rfl (fun ls hl => ?_)
      refine lv_iload hx hb dL_paper_46 (lv_at hl 0 rfl) ?_
      refine lv_sipush (v := 4096) hx hb dL_paper_48 (by decide) ?_
      refine lv_idiv hx hb dL_paper_51 (by decide) ?_
      refine lv_topi (fun w14_24 ew14_24 => ?_)
      have hq := hq w14_24 ew14_24
      refine lv_istore (lv' := [(14, .int w14_24), (13, .int r_23), (0, .ref aR), (1, .ref lf), (2, .ref lh), (3, .ref lu), (4, .ref ld), (5, .ref lt), (6, .int r_1), (7, .int r_2), (8, .int v8_3), (9, .int v9_4), (10, .int v10_5), (11, .int v11_6), (12, .int v12_7)]) hx hb dL_paper_52 hl (by decide) rfl (fun ls hl => ?_)
      refine lv_iload hx hb dL_paper_54 (lv_at hl 1 rfl) ?_
      refine lv_sipush (v := 4096) hx hb dL_paper_56 (by decide) ?_
      refine lv_irem hx hb dL_paper_59 (by decide) ?_
      refine lv_bipush (v := 64) hx hb dL_paper_60 (by decide) ?_
      refine lv_idiv hx hb dL_paper_62 (by decide) ?_
      refine lv_topi (fun w15_25 ew15_25 => ?_)
      have hq := hq w15_25 ew15_25
      refine lv_istore (lv' := [(15, .int w15_25), (14, .int w14_24), (13, .int r_23), (0, .ref aR), (1, .ref lf), (2, .ref lh), (3, .ref lu), (4, .ref ld), (5, .ref lt), (6, .int r_1), (7, .int r_2), (8, .int v8_3), (9, .int v9_4), (10, .int v10_5), (11, .int v11_6), (12, .int v12_7)]) hx hb dL_paper_63 hl (by decide) rfl (fun ls hl => ?_)
      refine lv_aload hx hb dL_paper_65 (lv_at hl 8 rfl) ?_
      refine lv_iload hx hb dL_paper_67 (lv_at hl 15 rfl) ?_
      refine lv_bipush (v := 8) hx hb dL_paper_69 (by decide) ?_
      refine lv_idiv hx hb dL_paper_71 (by decide) ?_
      have hin := hq.1
      have hq := hq.2
      refine va_iald hx hb hK hP 9 0 rfl rfl hin dL_paper_72 ?_
      refine lv_iload hx hb dL_paper_73 (lv_at hl 15 rfl) ?_
      refine lv_bipush (v := 8) hx hb dL_paper_75 (by decide) ?_
      refine lv_irem hx hb dL_paper_77 (by decide) ?_
      refine lv_ishr hx hb dL_paper_78 ?_
      refine lv_iconst (v := 1) hx hb dL_paper_79 (by decide) ?_
      refine lv_iand hx hb dL_paper_80 ?_
      refine lv_topi (fun w16_26 ew16_26 => ?_)
      have hq := hq w16_26 ew16_26
      refine lv_istore (lv' := [(16, .int w16_26), (15, .int w15_25), (14, .int w14_24), (13, .int r_23), (0, .ref aR), (1, .ref lf), (2, .ref lh), (3, .ref lu), (4, .ref ld), (5, .ref lt), (6, .int r_1), (7, .int r_2), (8, .int v8_3), (9, .int v9_4), (10, .int v10_5), (11, .int v11_6), (12, .int v12_7)]) hx hb dL_paper_81 hl (by decide) rfl (fun ls hl => ?_)
      refine lv_iload hx hb dL_paper_83 (lv_at hl 2 rfl) ?_
      have hq := hq (fun (t_27 : Int32) => ∀ (H : Heap) (locs : List Loc) (ls : Array Slot), va_P (dC, dI) vwCl [(aR, .inr (4, [.ref naS, .ref saS, .int isSaved, .ref aHi, .ref taF, .ref aT])), (naS, .inr (2, [.ref naF, .ref naC, .long npat, .long ngoal])), (naC, .inl (cI, 128, .inl ncol)), (naF, .inr (0, [.ref naK, .int nmade, .int nmac])), (naK, .inl (cI, 6, .inl nks)), (lf, .inl (cI, 7, .inl vf)), (lh, .inl (cI, 64, .inl vh)), (lu, .inl (cI, 64, .inl vu)), (ld, .inl (cI, 64, .inl vd)), (lt, .inl (cI, 8, .inl vt))] H → va_D A [(aR, .inr (4, [.ref naS, .ref saS, .int isSaved, .ref aHi, .ref taF, .ref aT])), (naS, .inr (2, [.ref naF, .ref naC, .long npat, .long ngoal])), (naC, .inl (cI, 128, .inl ncol)), (naF, .inr (0, [.ref naK, .int nmade, .int nmac])), (naK, .inl (cI, 6, .inl nks)), (lf, .inl (cI, 7, .inl vf)), (lh, .inl (cI, 64, .inl vh)), (lu, .inl (cI, 64, .inl vu)), (ld, .inl (cI, 64, .inl vd)), (lt, .inl (cI, 8, .inl vt))] → va_S A s.heap H locs → lv_has ls 18 [(0, .ref aR), (1, .ref lf), (2, .ref lh), (3, .ref lu), (4, .ref ld), (5, .ref lt), (6, .int r_1), (7, .int r_2), (8, .int v8_3), (9, .int v9_4), (10, .int v10_5), (11, .int v11_6), (12, .int v12_7), (13, .int r_23), (14, .int w14_24), (15, .int w15_25), (16, .int w16_26)] → W p l e ({ frames := 4, cells := 2, slots := 128, locals := 97 } : Room) s m ([.ref aR, .ref lf, .ref lh, .ref lu, .ref ld, .ref lt] : List Value).toArray below meth c H locs 0 0 Q (F0 m 100 ls [.int t_27])) (by
        intro t_27 hq H locs ls hP hD hS hl
        refine lv_istore (lv' := [(17, .int t_27), (0, .ref aR), (1, .ref lf), (2, .ref lh), (3, .ref lu), (4, .ref ld), (5, .ref lt), (6, .int r_1), (7, .int r_2), (8, .int v8_3), (9, .int v9_4), (10, .int v10_5), (11, .int v11_6), (12, .int v12_7), (13, .int r_23), (14, .int w14_24), (15, .int w15_25), (16, .int w16_26)]) hx hb dL_paper_100 hl (by decide) rfl (fun ls hl => ?_)
        refine lv_iload hx hb dL_paper_102 (lv_at hl 9 rfl) ?_
        refine lv_aload_n hx hb dL_paper_104 rfl (lv_at hl 3 rfl) ?_
        refine lv_iload hx hb dL_paper_105 (lv_at hl 13 rfl) ?_
        have hin := hq.1
        have hq := hq.2
        refine va_iald hx hb hK hP 6 0 rfl rfl hin dL_paper_107 ?_
        refine lv_iadd hx hb dL_paper_108 ?_
        refine lv_topi (fun w8_28 ew8_28 => ?_)
        have hq := hq w8_28 ew8_28
        refine lv_istore (lv' := [(8, .int w8_28), (17, .int t_27), (0, .ref aR), (1, .ref lf), (2, .ref lh), (3, .ref lu), (4, .ref ld), (5, .ref lt), (6, .int r_1), (7, .int r_2), (9, .int v9_4), (10, .int v10_5), (11, .int v11_6), (12, .int v12_7), (13, .int r_23), (14, .int w14_24), (15, .int w15_25), (16, .int w16_26)]) hx hb dL_paper_109 hl (by decide) rfl (fun ls hl => ?_)
        refine lv_iload hx hb dL_paper_111 (lv_at hl 10 rfl) ?_
        refine lv_aload_n hx hb dL_paper_113 rfl (lv_at hl 5 rfl) ?_
        refine lv_iload hx hb dL_paper_114 (lv_at hl 13 rfl) ?_
        have hin := hq.1
        have hq := hq.2
        refine va_iald hx hb hK hP 7 0 rfl rfl hin dL_paper_116 ?_
        have hq := hq (fun (t_29 : Int32) => ∀ (H : Heap) (locs : List Loc) (ls : Array Slot), va_P (dC, dI) vwCl [(aR, .inr (4, [.ref naS, .ref saS, .int isSaved, .ref aHi, .ref taF, .ref aT])), (naS, .inr (2, [.ref naF, .ref naC, .long npat, .long ngoal])), (naC, .inl (cI, 128, .inl ncol)), (naF, .inr (0, [.ref naK, .int nmade, .int nmac])), (naK, .inl (cI, 6, .inl nks)), (lf, .inl (cI, 7, .inl vf)), (lh, .inl (cI, 64, .inl vh)), (lu, .inl (cI, 64, .inl vu)), (ld, .inl (cI, 64, .inl vd)), (lt, .inl (cI, 8, .inl vt))] H → va_D A [(aR, .inr (4, [.ref naS, .ref saS, .int isSaved, .ref aHi, .ref taF, .ref aT])), (naS, .inr (2, [.ref naF, .ref naC, .long npat, .long ngoal])), (naC, .inl (cI, 128, .inl ncol)), (naF, .inr (0, [.ref naK, .int nmade, .int nmac])), (naK, .inl (cI, 6, .inl nks)), (lf, .inl (cI, 7, .inl vf)), (lh, .inl (cI, 64, .inl vh)), (lu, .inl (cI, 64, .inl vu)), (ld, .inl (cI, 64, .inl vd)), (lt, .inl (cI, 8, .inl vt))] → va_S A s.heap H locs → lv_has ls 18 [(0, .ref aR), (1, .ref lf), (2, .ref lh), (3, .ref lu), (4, .ref ld), (5, .ref lt), (6, .int r_1), (7, .int r_2), (8, .int w8_28), (10, .int v10_5), (11, .int v11_6), (12, .int v12_7), (13, .int r_23), (14, .int w14_24), (15, .int w15_25), (16, .int w16_26), (17, .int t_27)] → W p l e ({ frames := 4, cells := 2, slots := 128, locals := 97 } : Room) s m ([.ref aR, .ref lf, .ref lh, .ref lu, .ref ld, .ref lt] : List Value).toArray below meth c H locs 0 0 Q (F0 m 125 ls [.int t_29, .int v9_4])) (by
          intro t_29 hq H locs ls hP hD hS hl
          refine lv_aload hx hb dL_paper_125 (lv_at hl 4 rfl) ?_
          refine lv_iload hx hb dL_paper_127 (lv_at hl 11 rfl) ?_
          have hin := hq.1
          have hq := hq.2
          refine va_iald hx hb hK hP 8 0 rfl rfl hin dL_paper_129 ?_
          have hq := hq (fun (t_30 : Int32) => ∀ (H : Heap) (locs : List Loc) (ls : Array Slot), va_P (dC, dI) vwCl [(aR, .inr (4, [.ref naS, .ref saS, .int isSaved, .ref aHi, .ref taF, .ref aT])), (naS, .inr (2, [.ref naF, .ref naC, .long npat, .long ngoal])), (naC, .inl (cI, 128, .inl ncol)), (naF, .inr (0, [.ref naK, .int nmade, .int nmac])), (naK, .inl (cI, 6, .inl nks)), (lf, .inl (cI, 7, .inl vf)), (lh, .inl (cI, 64, .inl vh)), (lu, .inl (cI, 64, .inl vu)), (ld, .inl (cI, 64, .inl vd)), (lt, .inl (cI, 8, .inl vt))] H → va_D A [(aR, .inr (4, [.ref naS, .ref saS, .int isSaved, .ref aHi, .ref taF, .ref aT])), (naS, .inr (2, [.ref naF, .ref naC, .long npat, .long ngoal])), (naC, .inl (cI, 128, .inl ncol)), (naF, .inr (0, [.ref naK, .int nmade, .int nmac])), (naK, .inl (cI, 6, .inl nks)), (lf, .inl (cI, 7, .inl vf)), (lh, .inl (cI, 64, .inl vh)), (lu, .inl (cI, 64, .inl vu)), (ld, .inl (cI, 64, .inl vd)), (lt, .inl (cI, 8, .inl vt))] → va_S A s.heap H locs → lv_has ls 18 [(0, .ref aR), (1, .ref lf), (2, .ref lh), (3, .ref lu), (4, .ref ld), (5, .ref lt), (6, .int r_1), (7, .int r_2), (8, .int w8_28), (10, .int v10_5), (11, .int v11_6), (12, .int v12_7), (13, .int r_23), (14, .int w14_24), (15, .int w15_25), (16, .int w16_26), (17, .int t_27)] → W p l e ({ frames := 4, cells := 2, slots := 128, locals := 97 } : Room) s m ([.ref aR, .ref lf, .ref lh, .ref lu, .ref ld, .ref lt] : List Value).toArray below meth c H locs 0 0 Q (F0 m 138 ls [.int t_30, .int t_29, .int v9_4])) (by
            intro t_30 hq H locs ls hP hD hS hl
            refine lv_iadd hx hb dL_paper_138 ?_
            refine lv_iadd hx hb dL_paper_139 ?_
            refine lv_topi (fun w9_31 ew9_31 => ?_)
            have hq := hq w9_31 ew9_31
            refine lv_istore (lv' := [(9, .int w9_31), (0, .ref aR), (1, .ref lf), (2, .ref lh), (3, .ref lu), (4, .ref ld), (5, .ref lt), (6, .int r_1), (7, .int r_2), (8, .int w8_28), (10, .int v10_5), (11, .int v11_6), (12, .int v12_7), (13, .int r_23), (14, .int w14_24), (15, .int w15_25), (16, .int w16_26), (17, .int t_27)]) hx hb dL_paper_140 hl (by decide) rfl (fun ls hl => ?_)
            refine lv_iload hx hb dL_paper_142 (lv_at hl 10 rfl) ?_
            refine lv_iload hx hb dL_paper_144 (lv_at hl 16 rfl) ?_
            refine lv_iadd hx hb dL_paper_146 ?_
            refine lv_topi (fun w10_32 ew10_32 => ?_)
            have hq := hq w10_32 ew10_32
            refine lv_istore (lv' := [(10, .int w10_32), (9, .int w9_31), (0, .ref aR), (1, .ref lf), (2, .ref lh), (3, .ref lu), (4, .ref ld), (5, .ref lt), (6, .int r_1), (7, .int r_2), (8, .int w8_28), (11, .int v11_6), (12, .int v12_7), (13, .int r_23), (14, .int w14_24), (15, .int w15_25), (16, .int w16_26), (17, .int t_27)]) hx hb dL_paper_147 hl (by decide) rfl (fun ls hl => ?_)
            refine lv_iload hx hb dL_paper_149 (lv_at hl 11 rfl) ?_
            refine lv_iload hx hb dL_paper_151 (lv_at hl 16 rfl) ?_
            refine lv_aload_n hx hb dL_paper_153 rfl (lv_at hl 4 rfl) ?_
            refine lv_iload hx hb dL_paper_154 (lv_at hl 12 rfl) ?_
            have hin := hq.1
            have hq := hq.2
            refine va_iald hx hb hK hP 6 0 rfl rfl hin dL_paper_156 ?_
            have hq := hq (fun (t_33 : Int32) => ∀ (H : Heap) (locs : List Loc) (ls : Array Slot), va_P (dC, dI) vwCl [(aR, .inr (4, [.ref naS, .ref saS, .int isSaved, .ref aHi, .ref taF, .ref aT])), (naS, .inr (2, [.ref naF, .ref naC, .long npat, .long ngoal])), (naC, .inl (cI, 128, .inl ncol)), (naF, .inr (0, [.ref naK, .int nmade, .int nmac])), (naK, .inl (cI, 6, .inl nks)), (lf, .inl (cI, 7, .inl vf)), (lh, .inl (cI, 64, .inl vh)), (lu, .inl (cI, 64, .inl vu)), (ld, .inl (cI, 64, .inl vd)), (lt, .inl (cI, 8, .inl vt))] H → va_D A [(aR, .inr (4, [.ref naS, .ref saS, .int isSaved, .ref aHi, .ref taF, .ref aT])), (naS, .inr (2, [.ref naF, .ref naC, .long npat, .long ngoal])), (naC, .inl (cI, 128, .inl ncol)), (naF, .inr (0, [.ref naK, .int nmade, .int nmac])), (naK, .inl (cI, 6, .inl nks)), (lf, .inl (cI, 7, .inl vf)), (lh, .inl (cI, 64, .inl vh)), (lu, .inl (cI, 64, .inl vu)), (ld, .inl (cI, 64, .inl vd)), (lt, .inl (cI, 8, .inl vt))] → va_S A s.heap H locs → lv_has ls 18 [(0, .ref aR), (1, .ref lf), (2, .ref lh), (3, .ref lu), (4, .ref ld), (5, .ref lt), (6, .int r_1), (7, .int r_2), (8, .int w8_28), (9, .int w9_31), (10, .int w10_32), (12, .int v12_7), (13, .int r_23), (14, .int w14_24), (15, .int w15_25), (17, .int t_27)] → W p l e ({ frames := 4, cells := 2, slots := 128, locals := 97 } : Room) s m ([.ref aR, .ref lf, .ref lh, .ref lu, .ref ld, .ref lt] : List Value).toArray below meth c H locs 0 0 Q (F0 m 165 ls [.int t_33, .int v11_6])) (by
              intro t_33 hq H locs ls hP hD hS hl
              refine lv_iadd hx hb dL_paper_165 ?_
              refine lv_topi (fun w11_34 ew11_34 => ?_)
              have hq := hq w11_34 ew11_34
              refine lv_istore (lv' := [(11, .int w11_34), (0, .ref aR), (1, .ref lf), (2, .ref lh), (3, .ref lu), (4, .ref ld), (5, .ref lt), (6, .int r_1), (7, .int r_2), (8, .int w8_28), (9, .int w9_31), (10, .int w10_32), (12, .int v12_7), (13, .int r_23), (14, .int w14_24), (15, .int w15_25), (17, .int t_27)]) hx hb dL_paper_166 hl (by decide) rfl (fun ls hl => ?_)
              refine lv_aload_n hx hb dL_paper_168 rfl (lv_at hl 1 rfl) ?_
              refine lv_iload hx hb dL_paper_169 (lv_at hl 12 rfl) ?_
              refine lv_iconst (v := 0) hx hb dL_paper_171 (by decide) ?_
              have hPc := hP.sub (ws' := [(aR, .inr (4, [.ref naS, .ref saS, .int isSaved, .ref aHi, .ref taF, .ref aT])), (naS, .inr (2, [.ref naF, .ref naC, .long npat, .long ngoal])), (naF, .inr (0, [.ref naK, .int nmade, .int nmac])), (naK, .inl (cI, 6, .inl nks))]) [0, 1, 3, 4] rfl
              have hDc := hD.sub (ws' := [(aR, .inr (4, [.ref naS, .ref saS, .int isSaved, .ref aHi, .ref taF, .ref aT])), (naS, .inr (2, [.ref naF, .ref naC, .long npat, .long ngoal])), (naF, .inr (0, [.ref naK, .int nmade, .int nmac])), (naK, .inl (cI, 6, .inl nks))]) [0, 1, 3, 4] (by decide) rfl
              have hFc := va_free (wc := [(aR, .inr (4, [.ref naS, .ref saS, .int isSaved, .ref aHi, .ref taF, .ref aT])), (naS, .inr (2, [.ref naF, .ref naC, .long npat, .long ngoal])), (naF, .inr (0, [.ref naK, .int nmade, .int nmac])), (naK, .inl (cI, 6, .inl nks))]) hD hS hA [0, 1, 3, 4] rfl
              refine va_calli (va_runV (As := [.int v12_7, .int (0 : Int32)]) (rest := []) ⟨hx, hb, hml, hown, hts⟩ (c_X5_where l dC dI cI cC cS aR naS naC naF naK saS aHi taF aT _ isSaved npat ngoal nmade nmac nks v12_7 (0 : Int32) hq) (cwV 2 hts gL_paper_X5_where rfl rfl rfl (by decide +kernel) ⟨Nat.le_of_ble_eq_true rfl, Nat.le_of_ble_eq_true rfl⟩) (gn_preV hPc hK hN hDc (ci := 4) (q0 := 0) rfl rfl) rfl rfl hl.1 rfl (lv_room (Nat.le_of_ble_eq_true rfl)) dL_paper_172 ⟨Nat.zero_le _, Nat.zero_le _⟩) hS (fun q _ h => hFc q h) hFc (fun r_35 u t H1 locs ht hvm hq hB hz1 hk1 hS => ?_)
              obtain ⟨hP1, hK1, hD1⟩ := hB
              rw [ht] at hP1
              try dsimp only at hq
              have hP := gn_ro (wc := [(aR, .inr (4, [.ref naS, .ref saS, .int isSaved, .ref aHi, .ref taF, .ref aT])), (naS, .inr (2, [.ref naF, .ref naC, .long npat, .long ngoal])), (naF, .inr (0, [.ref naK, .int nmade, .int nmac])), (naK, .inl (cI, 6, .inl nks))]) hP hD [0, 1, 3, 4] rfl hk1 hP1
              generalize H1 = H at hP hS ⊢
              refine lv_iload hx hb dL_paper_175 (lv_at hl 13 rfl) ?_
              refine lv_bipush (v := 8) hx hb dL_paper_177 (by decide) ?_
              refine lv_irem hx hb dL_paper_179 (by decide) ?_
              have hq := hq (∀ (H : Heap) (locs : List Loc) (ls : Array Slot), va_P (dC, dI) vwCl [(aR, .inr (4, [.ref naS, .ref saS, .int isSaved, .ref aHi, .ref taF, .ref aT])), (naS, .inr (2, [.ref naF, .ref naC, .long npat, .long ngoal])), (naC, .inl (cI, 128, .inl ncol)), (naF, .inr (0, [.ref naK, .int nmade, .int nmac])), (naK, .inl (cI, 6, .inl nks)), (lf, .inl (cI, 7, .inl vf)), (lh, .inl (cI, 64, .inl vh)), (lu, .inl (cI, 64, .inl vu)), (ld, .inl (cI, 64, .inl vd)), (lt, .inl (cI, 8, .inl vt))] H → va_D A [(aR, .inr (4, [.ref naS, .ref saS, .int isSaved, .ref aHi, .ref taF, .ref aT])), (naS, .inr (2, [.ref naF, .ref naC, .long npat, .long ngoal])), (naC, .inl (cI, 128, .inl ncol)), (naF, .inr (0, [.ref naK, .int nmade, .int nmac])), (naK, .inl (cI, 6, .inl nks)), (lf, .inl (cI, 7, .inl vf)), (lh, .inl (cI, 64, .inl vh)), (lu, .inl (cI, 64, .inl vu)), (ld, .inl (cI, 64, .inl vd)), (lt, .inl (cI, 8, .inl vt))] → va_S A s.heap H locs → lv_has ls 18 [] → W p l e ({ frames := 4, cells := 2, slots := 128, locals := 97 } : Room) s m ([.ref aR, .ref lf, .ref lh, .ref lu, .ref ld, .ref lt] : List Value).toArray below meth c H locs 0 0 Q (F0 m 400 ls [])) (by
                intro  hq H locs ls hP hD hS hl
                refine lv_iconst (v := 0) hx hb dL_paper_400 (by decide) ?_
                refine W.widen (k := 2) (n := 128) (by omega) (by omega) ?_
                have hz := hq.1
                have hq := hq.2
                exact hret _ _ _ _ _ dL_paper_401 hP hD hS hz hq)
              refine lv_icmp_ne (tgt := 400) hx hb dL_paper_180 (by decide) (fun hc => ?_) (fun hc => ?_)
              · have hq := hq.1 hc
                exact hq _ _ _ hP hD hS (lv_sub hl [] rfl)
              · have hq := hq.2 hc
                refine lv_aload_n hx hb dL_paper_183 rfl (lv_at hl 1 rfl) ?_
                refine lv_iload hx hb dL_paper_184 (lv_at hl 12 rfl) ?_
                refine lv_iconst (v := 1) hx hb dL_paper_186 (by decide) ?_
                have hPc := hP.sub (ws' := [(aR, .inr (4, [.ref naS, .ref saS, .int isSaved, .ref aHi, .ref taF, .ref aT])), (naS, .inr (2, [.ref naF, .ref naC, .long npat, .long ngoal])), (naF, .inr (0, [.ref naK, .int nmade, .int nmac])), (naK, .inl (cI, 6, .inl nks))]) [0, 1, 3, 4] rfl
                have hDc := hD.sub (ws' := [(aR, .inr (4, [.ref naS, .ref saS, .int isSaved, .ref aHi, .ref taF, .ref aT])), (naS, .inr (2, [.ref naF, .ref naC, .long npat, .long ngoal])), (naF, .inr (0, [.ref naK, .int nmade, .int nmac])), (naK, .inl (cI, 6, .inl nks))]) [0, 1, 3, 4] (by decide) rfl
                have hFc := va_free (wc := [(aR, .inr (4, [.ref naS, .ref saS, .int isSaved, .ref aHi, .ref taF, .ref aT])), (naS, .inr (2, [.ref naF, .ref naC, .long npat, .long ngoal])), (naF, .inr (0, [.ref naK, .int nmade, .int nmac])), (naK, .inl (cI, 6, .inl nks))]) hD hS hA [0, 1, 3, 4] rfl
                refine va_calli (va_runV (As := [.int v12_7, .int (1 : Int32)]) (rest := []) ⟨hx, hb, hml, hown, hts⟩ (c_X5_where l dC dI cI cC cS aR naS naC naF naK saS aHi taF aT _ isSaved npat ngoal nmade nmac nks v12_7 (1 : Int32) hq) (cwV 2 hts gL_paper_X5_where rfl rfl rfl (by decide +kernel) ⟨Nat.le_of_ble_eq_true rfl, Nat.le_of_ble_eq_true rfl⟩) (gn_preV hPc hK hN hDc (ci := 4) (q0 := 0) rfl rfl) rfl rfl hl.1 rfl (lv_room (Nat.le_of_ble_eq_true rfl)) dL_paper_187 ⟨Nat.zero_le _, Nat.zero_le _⟩) hS (fun q _ h => hFc q h) hFc (fun r_36 u t H1 locs ht hvm hq hB hz1 hk1 hS => ?_)
                obtain ⟨hP1, hK1, hD1⟩ := hB
                rw [ht] at hP1
                try dsimp only at hq
                have hP := gn_ro (wc := [(aR, .inr (4, [.ref naS, .ref saS, .int isSaved, .ref aHi, .ref taF, .ref aT])), (naS, .inr (2, [.ref naF, .ref naC, .long npat, .long ngoal])), (naF, .inr (0, [.ref naK, .int nmade, .int nmac])), (naK, .inl (cI, 6, .inl nks))]) hP hD [0, 1, 3, 4] rfl hk1 hP1
                generalize H1 = H at hP hS ⊢
                refine lv_iload hx hb dL_paper_190 (lv_at hl 13 rfl) ?_
                refine lv_bipush (v := 64) hx hb dL_paper_192 (by decide) ?_
                refine lv_irem hx hb dL_paper_194 (by decide) ?_
                refine lv_bipush (v := 8) hx hb dL_paper_195 (by decide) ?_
                refine lv_idiv hx hb dL_paper_197 (by decide) ?_
                refine lv_icmp_ne (tgt := 400) hx hb dL_paper_198 (by decide) (fun hc => ?_) (fun hc => ?_)
                · have hq := hq.1 hc
                  exact hq _ _ _ hP hD hS (lv_sub hl [] rfl)
                · have hq := hq.2 hc
                  refine lv_aload_n hx hb dL_paper_201 rfl (lv_at hl 1 rfl) ?_
                  refine lv_iload hx hb dL_paper_202 (lv_at hl 12 rfl) ?_
                  refine lv_iconst (v := 2) hx hb dL_paper_204 (by decide) ?_
                  have hPc := hP.sub (ws' := [(aR, .inr (4, [.ref naS, .ref saS, .int isSaved, .ref aHi, .ref taF, .ref aT])), (naS, .inr (2, [.ref naF, .ref naC, .long npat, .long ngoal])), (naF, .inr (0, [.ref naK, .int nmade, .int nmac])), (naK, .inl (cI, 6, .inl nks))]) [0, 1, 3, 4] rfl
                  have hDc := hD.sub (ws' := [(aR, .inr (4, [.ref naS, .ref saS, .int isSaved, .ref aHi, .ref taF, .ref aT])), (naS, .inr (2, [.ref naF, .ref naC, .long npat, .long ngoal])), (naF, .inr (0, [.ref naK, .int nmade, .int nmac])), (naK, .inl (cI, 6, .inl nks))]) [0, 1, 3, 4] (by decide) rfl
                  have hFc := va_free (wc := [(aR, .inr (4, [.ref naS, .ref saS, .int isSaved, .ref aHi, .ref taF, .ref aT])), (naS, .inr (2, [.ref naF, .ref naC, .long npat, .long ngoal])), (naF, .inr (0, [.ref naK, .int nmade, .int nmac])), (naK, .inl (cI, 6, .inl nks))]) hD hS hA [0, 1, 3, 4] rfl
                  refine va_calli (va_runV (As := [.int v12_7, .int (2 : Int32)]) (rest := []) ⟨hx, hb, hml, hown, hts⟩ (c_X5_where l dC dI cI cC cS aR naS naC naF naK saS aHi taF aT _ isSaved npat ngoal nmade nmac nks v12_7 (2 : Int32) hq) (cwV 2 hts gL_paper_X5_where rfl rfl rfl (by decide +kernel) ⟨Nat.le_of_ble_eq_true rfl, Nat.le_of_ble_eq_true rfl⟩) (gn_preV hPc hK hN hDc (ci := 4) (q0 := 0) rfl rfl) rfl rfl hl.1 rfl (lv_room (Nat.le_of_ble_eq_true rfl)) dL_paper_205 ⟨Nat.zero_le _, Nat.zero_le _⟩) hS (fun q _ h => hFc q h) hFc (fun r_37 u t H1 locs ht hvm hq hB hz1 hk1 hS => ?_)
                  obtain ⟨hP1, hK1, hD1⟩ := hB
                  rw [ht] at hP1
                  try dsimp only at hq
                  have hP := gn_ro (wc := [(aR, .inr (4, [.ref naS, .ref saS, .int isSaved, .ref aHi, .ref taF, .ref aT])), (naS, .inr (2, [.ref naF, .ref naC, .long npat, .long ngoal])), (naF, .inr (0, [.ref naK, .int nmade, .int nmac])), (naK, .inl (cI, 6, .inl nks))]) hP hD [0, 1, 3, 4] rfl hk1 hP1
                  generalize H1 = H at hP hS ⊢
                  refine lv_iload hx hb dL_paper_208 (lv_at hl 15 rfl) ?_
                  refine lv_icmp_ne (tgt := 400) hx hb dL_paper_210 (by decide) (fun hc => ?_) (fun hc => ?_)
                  · have hq := hq.1 hc
                    exact hq _ _ _ hP hD hS (lv_sub hl [] rfl)
                  · have hq := hq.2 hc
                    refine lv_aload_n hx hb dL_paper_213 rfl (lv_at hl 1 rfl) ?_
                    refine lv_iload hx hb dL_paper_214 (lv_at hl 12 rfl) ?_
                    refine lv_iconst (v := 3) hx hb dL_paper_216 (by decide) ?_
                    have hPc := hP.sub (ws' := [(aR, .inr (4, [.ref naS, .ref saS, .int isSaved, .ref aHi, .ref taF, .ref aT])), (naS, .inr (2, [.ref naF, .ref naC, .long npat, .long ngoal])), (naF, .inr (0, [.ref naK, .int nmade, .int nmac])), (naK, .inl (cI, 6, .inl nks))]) [0, 1, 3, 4] rfl
                    have hDc := hD.sub (ws' := [(aR, .inr (4, [.ref naS, .ref saS, .int isSaved, .ref aHi, .ref taF, .ref aT])), (naS, .inr (2, [.ref naF, .ref naC, .long npat, .long ngoal])), (naF, .inr (0, [.ref naK, .int nmade, .int nmac])), (naK, .inl (cI, 6, .inl nks))]) [0, 1, 3, 4] (by decide) rfl
                    have hFc := va_free (wc := [(aR, .inr (4, [.ref naS, .ref saS, .int isSaved, .ref aHi, .ref taF, .ref aT])), (naS, .inr (2, [.ref naF, .ref naC, .long npat, .long ngoal])), (naF, .inr (0, [.ref naK, .int nmade, .int nmac])), (naK, .inl (cI, 6, .inl nks))]) hD hS hA [0, 1, 3, 4] rfl
                    refine va_calli (va_runV (As := [.int v12_7, .int (3 : Int32)]) (rest := []) ⟨hx, hb, hml, hown, hts⟩ (c_X5_where l dC dI cI cC cS aR naS naC naF naK saS aHi taF aT _ isSaved npat ngoal nmade nmac nks v12_7 (3 : Int32) hq) (cwV 2 hts gL_paper_X5_where rfl rfl rfl (by decide +kernel) ⟨Nat.le_of_ble_eq_true rfl, Nat.le_of_ble_eq_true rfl⟩) (gn_preV hPc hK hN hDc (ci := 4) (q0 := 0) rfl rfl) rfl rfl hl.1 rfl (lv_room (Nat.le_of_ble_eq_true rfl)) dL_paper_217 ⟨Nat.zero_le _, Nat.zero_le _⟩) hS (fun q _ h => hFc q h) hFc (fun r_38 u t H1 locs ht hvm hq hB hz1 hk1 hS => ?_)
                    obtain ⟨hP1, hK1, hD1⟩ := hB
                    rw [ht] at hP1
                    try dsimp only at hq
                    have hP := gn_ro (wc := [(aR, .inr (4, [.ref naS, .ref saS, .int isSaved, .ref aHi, .ref taF, .ref aT])), (naS, .inr (2, [.ref naF, .ref naC, .long npat, .long ngoal])), (naF, .inr (0, [.ref naK, .int nmade, .int nmac])), (naK, .inl (cI, 6, .inl nks))]) hP hD [0, 1, 3, 4] rfl hk1 hP1
                    generalize H1 = H at hP hS ⊢
                    refine lv_iload hx hb dL_paper_220 (lv_at hl 14 rfl) ?_
                    refine lv_icmp_ne (tgt := 400) hx hb dL_paper_222 (by decide) (fun hc => ?_) (fun hc => ?_)
                    · have hq := hq.1 hc
                      exact hq _ _ _ hP hD hS (lv_sub hl [] rfl)
                    · have hq := hq.2 hc
                      refine lv_aload_n hx hb dL_paper_225 rfl (lv_at hl 1 rfl) ?_
                      refine lv_iload hx hb dL_paper_226 (lv_at hl 13 rfl) ?_
                      refine lv_bipush (v := 8) hx hb dL_paper_228 (by decide) ?_
                      refine lv_irem hx hb dL_paper_230 (by decide) ?_
                      refine lv_iload hx hb dL_paper_231 (lv_at hl 13 rfl) ?_
                      refine lv_bipush (v := 64) hx hb dL_paper_233 (by decide) ?_
                      refine lv_irem hx hb dL_paper_235 (by decide) ?_
                      refine lv_bipush (v := 8) hx hb dL_paper_236 (by decide) ?_
                      refine lv_idiv hx hb dL_paper_238 (by decide) ?_
                      refine lv_iload hx hb dL_paper_239 (lv_at hl 15 rfl) ?_
                      refine lv_iconst (v := 0) hx hb dL_paper_241 (by decide) ?_
                      have hPc := hP.sub (ws' := [(aR, .inr (4, [.ref naS, .ref saS, .int isSaved, .ref aHi, .ref taF, .ref aT])), (naS, .inr (2, [.ref naF, .ref naC, .long npat, .long ngoal])), (naC, .inl (cI, 128, .inl ncol)), (naF, .inr (0, [.ref naK, .int nmade, .int nmac])), (naK, .inl (cI, 6, .inl nks))]) [0, 1, 2, 3, 4] rfl
                      have hDc := hD.sub (ws' := [(aR, .inr (4, [.ref naS, .ref saS, .int isSaved, .ref aHi, .ref taF, .ref aT])), (naS, .inr (2, [.ref naF, .ref naC, .long npat, .long ngoal])), (naC, .inl (cI, 128, .inl ncol)), (naF, .inr (0, [.ref naK, .int nmade, .int nmac])), (naK, .inl (cI, 6, .inl nks))]) [0, 1, 2, 3, 4] (by decide) rfl
                      have hFc := va_free (wc := [(aR, .inr (4, [.ref naS, .ref saS, .int isSaved, .ref aHi, .ref taF, .ref aT])), (naS, .inr (2, [.ref naF, .ref naC, .long npat, .long ngoal])), (naC, .inl (cI, 128, .inl ncol)), (naF, .inr (0, [.ref naK, .int nmade, .int nmac])), (naK, .inl (cI, 6, .inl nks))]) hD hS hA [0, 1, 2, 3, 4] rfl
                      refine va_calli (va_runV (As := [.int (r_23 - r_23 / (8 : Int32) * (8 : Int32)), .int ((r_23 - r_23 / (64 : Int32) * (64 : Int32)) / (8 : Int32)), .int w15_25, .int (0 : Int32)]) (rest := []) ⟨hx, hb, hml, hown, hts⟩ (c_X5_layer l dC dI cI cC cS aR naS naC naF naK saS aHi taF aT _ isSaved npat ngoal ncol nmade nmac nks (r_23 - r_23 / (8 : Int32) * (8 : Int32)) ((r_23 - r_23 / (64 : Int32) * (64 : Int32)) / (8 : Int32)) w15_25 (0 : Int32) hq) (cwV 4 hts gL_paper_X5_layer rfl rfl rfl (by decide +kernel) ⟨Nat.le_of_ble_eq_true rfl, Nat.le_of_ble_eq_true rfl⟩) (gn_preV hPc hK hN hDc (ci := 4) (q0 := 0) rfl rfl) rfl rfl hl.1 rfl (lv_room (Nat.le_of_ble_eq_true rfl)) dL_paper_242 ⟨Nat.zero_le _, Nat.zero_le _⟩) hS (fun q _ h => hFc q h) hFc (fun r_39 u t H1 locs ht hvm hq hB hz1 hk1 hS => ?_)
                      obtain ⟨hP1, hK1, hD1⟩ := hB
                      rw [ht] at hP1
                      try dsimp only at hq
                      have hP := gn_ro (wc := [(aR, .inr (4, [.ref naS, .ref saS, .int isSaved, .ref aHi, .ref taF, .ref aT])), (naS, .inr (2, [.ref naF, .ref naC, .long npat, .long ngoal])), (naC, .inl (cI, 128, .inl ncol)), (naF, .inr (0, [.ref naK, .int nmade, .int nmac])), (naK, .inl (cI, 6, .inl nks))]) hP hD [0, 1, 2, 3, 4] rfl hk1 hP1
                      generalize H1 = H at hP hS ⊢
                      refine lv_iload hx hb dL_paper_245 (lv_at hl 12 rfl) ?_
                      refine lv_icmp_ne (tgt := 400) hx hb dL_paper_247 (by decide) (fun hc => ?_) (fun hc => ?_)
                      · have hq := hq.1 hc
                        exact hq _ _ _ hP hD hS (lv_sub hl [] rfl)
                      · have hq := hq.2 hc
                        refine lv_aload_n hx hb dL_paper_250 rfl (lv_at hl 1 rfl) ?_
                        refine lv_iload hx hb dL_paper_251 (lv_at hl 13 rfl) ?_
                        refine lv_bipush (v := 8) hx hb dL_paper_253 (by decide) ?_
                        refine lv_irem hx hb dL_paper_255 (by decide) ?_
                        refine lv_iload hx hb dL_paper_256 (lv_at hl 13 rfl) ?_
                        refine lv_bipush (v := 64) hx hb dL_paper_258 (by decide) ?_
                        refine lv_irem hx hb dL_paper_260 (by decide) ?_
                        refine lv_bipush (v := 8) hx hb dL_paper_261 (by decide) ?_
                        refine lv_idiv hx hb dL_paper_263 (by decide) ?_
                        refine lv_iload hx hb dL_paper_264 (lv_at hl 15 rfl) ?_
                        refine lv_iconst (v := 1) hx hb dL_paper_266 (by decide) ?_
                        have hPc := hP.sub (ws' := [(aR, .inr (4, [.ref naS, .ref saS, .int isSaved, .ref aHi, .ref taF, .ref aT])), (naS, .inr (2, [.ref naF, .ref naC, .long npat, .long ngoal])), (naC, .inl (cI, 128, .inl ncol)), (naF, .inr (0, [.ref naK, .int nmade, .int nmac])), (naK, .inl (cI, 6, .inl nks))]) [0, 1, 2, 3, 4] rfl
                        have hDc := hD.sub (ws' := [(aR, .inr (4, [.ref naS, .ref saS, .int isSaved, .ref aHi, .ref taF, .ref aT])), (naS, .inr (2, [.ref naF, .ref naC, .long npat, .long ngoal])), (naC, .inl (cI, 128, .inl ncol)), (naF, .inr (0, [.ref naK, .int nmade, .int nmac])), (naK, .inl (cI, 6, .inl nks))]) [0, 1, 2, 3, 4] (by decide) rfl
                        have hFc := va_free (wc := [(aR, .inr (4, [.ref naS, .ref saS, .int isSaved, .ref aHi, .ref taF, .ref aT])), (naS, .inr (2, [.ref naF, .ref naC, .long npat, .long ngoal])), (naC, .inl (cI, 128, .inl ncol)), (naF, .inr (0, [.ref naK, .int nmade, .int nmac])), (naK, .inl (cI, 6, .inl nks))]) hD hS hA [0, 1, 2, 3, 4] rfl
                        refine va_calli (va_runV (As := [.int (r_23 - r_23 / (8 : Int32) * (8 : Int32)), .int ((r_23 - r_23 / (64 : Int32) * (64 : Int32)) / (8 : Int32)), .int w15_25, .int (1 : Int32)]) (rest := []) ⟨hx, hb, hml, hown, hts⟩ (c_X5_layer l dC dI cI cC cS aR naS naC naF naK saS aHi taF aT _ isSaved npat ngoal ncol nmade nmac nks (r_23 - r_23 / (8 : Int32) * (8 : Int32)) ((r_23 - r_23 / (64 : Int32) * (64 : Int32)) / (8 : Int32)) w15_25 (1 : Int32) hq) (cwV 4 hts gL_paper_X5_layer rfl rfl rfl (by decide +kernel) ⟨Nat.le_of_ble_eq_true rfl, Nat.le_of_ble_eq_true rfl⟩) (gn_preV hPc hK hN hDc (ci := 4) (q0 := 0) rfl rfl) rfl rfl hl.1 rfl (lv_room (Nat.le_of_ble_eq_true rfl)) dL_paper_267 ⟨Nat.zero_le _, Nat.zero_le _⟩) hS (fun q _ h => hFc q h) hFc (fun r_40 u t H1 locs ht hvm hq hB hz1 hk1 hS => ?_)
                        obtain ⟨hP1, hK1, hD1⟩ := hB
                        rw [ht] at hP1
                        try dsimp only at hq
                        have hP := gn_ro (wc := [(aR, .inr (4, [.ref naS, .ref saS, .int isSaved, .ref aHi, .ref taF, .ref aT])), (naS, .inr (2, [.ref naF, .ref naC, .long npat, .long ngoal])), (naC, .inl (cI, 128, .inl ncol)), (naF, .inr (0, [.ref naK, .int nmade, .int nmac])), (naK, .inl (cI, 6, .inl nks))]) hP hD [0, 1, 2, 3, 4] rfl hk1 hP1
                        generalize H1 = H at hP hS ⊢
                        refine lv_iload hx hb dL_paper_270 (lv_at hl 14 rfl) ?_
                        refine lv_icmp_ne (tgt := 400) hx hb dL_paper_272 (by decide) (fun hc => ?_) (fun hc => ?_)
                        · have hq := hq.1 hc
                          exact hq _ _ _ hP hD hS (lv_sub hl [] rfl)
                        · have hq := hq.2 hc
                          refine lv_aload_n hx hb dL_paper_275 rfl (lv_at hl 1 rfl) ?_
                          refine lv_iload hx hb dL_paper_276 (lv_at hl 13 rfl) ?_
                          refine lv_bipush (v := 8) hx hb dL_paper_278 (by decide) ?_
                          refine lv_irem hx hb dL_paper_280 (by decide) ?_
                          refine lv_iload hx hb dL_paper_281 (lv_at hl 13 rfl) ?_
                          refine lv_bipush (v := 64) hx hb dL_paper_283 (by decide) ?_
                          refine lv_irem hx hb dL_paper_285 (by decide) ?_
                          refine lv_bipush (v := 8) hx hb dL_paper_286 (by decide) ?_
                          refine lv_idiv hx hb dL_paper_288 (by decide) ?_
                          refine lv_iload hx hb dL_paper_289 (lv_at hl 15 rfl) ?_
                          refine lv_iconst (v := 2) hx hb dL_paper_291 (by decide) ?_
                          have hPc := hP.sub (ws' := [(aR, .inr (4, [.ref naS, .ref saS, .int isSaved, .ref aHi, .ref taF, .ref aT])), (naS, .inr (2, [.ref naF, .ref naC, .long npat, .long ngoal])), (naC, .inl (cI, 128, .inl ncol)), (naF, .inr (0, [.ref naK, .int nmade, .int nmac])), (naK, .inl (cI, 6, .inl nks))]) [0, 1, 2, 3, 4] rfl
                          have hDc := hD.sub (ws' := [(aR, .inr (4, [.ref naS, .ref saS, .int isSaved, .ref aHi, .ref taF, .ref aT])), (naS, .inr (2, [.ref naF, .ref naC, .long npat, .long ngoal])), (naC, .inl (cI, 128, .inl ncol)), (naF, .inr (0, [.ref naK, .int nmade, .int nmac])), (naK, .inl (cI, 6, .inl nks))]) [0, 1, 2, 3, 4] (by decide) rfl
                          have hFc := va_free (wc := [(aR, .inr (4, [.ref naS, .ref saS, .int isSaved, .ref aHi, .ref taF, .ref aT])), (naS, .inr (2, [.ref naF, .ref naC, .long npat, .long ngoal])), (naC, .inl (cI, 128, .inl ncol)), (naF, .inr (0, [.ref naK, .int nmade, .int nmac])), (naK, .inl (cI, 6, .inl nks))]) hD hS hA [0, 1, 2, 3, 4] rfl
                          refine va_calli (va_runV (As := [.int (r_23 - r_23 / (8 : Int32) * (8 : Int32)), .int ((r_23 - r_23 / (64 : Int32) * (64 : Int32)) / (8 : Int32)), .int w15_25, .int (2 : Int32)]) (rest := []) ⟨hx, hb, hml, hown, hts⟩ (c_X5_layer l dC dI cI cC cS aR naS naC naF naK saS aHi taF aT _ isSaved npat ngoal ncol nmade nmac nks (r_23 - r_23 / (8 : Int32) * (8 : Int32)) ((r_23 - r_23 / (64 : Int32) * (64 : Int32)) / (8 : Int32)) w15_25 (2 : Int32) hq) (cwV 4 hts gL_paper_X5_layer rfl rfl rfl (by decide +kernel) ⟨Nat.le_of_ble_eq_true rfl, Nat.le_of_ble_eq_true rfl⟩) (gn_preV hPc hK hN hDc (ci := 4) (q0 := 0) rfl rfl) rfl rfl hl.1 rfl (lv_room (Nat.le_of_ble_eq_true rfl)) dL_paper_292 ⟨Nat.zero_le _, Nat.zero_le _⟩) hS (fun q _ h => hFc q h) hFc (fun r_41 u t H1 locs ht hvm hq hB hz1 hk1 hS => ?_)
                          obtain ⟨hP1, hK1, hD1⟩ := hB
                          rw [ht] at hP1
                          try dsimp only at hq
                          have hP := gn_ro (wc := [(aR, .inr (4, [.ref naS, .ref saS, .int isSaved, .ref aHi, .ref taF, .ref aT])), (naS, .inr (2, [.ref naF, .ref naC, .long npat, .long ngoal])), (naC, .inl (cI, 128, .inl ncol)), (naF, .inr (0, [.ref naK, .int nmade, .int nmac])), (naK, .inl (cI, 6, .inl nks))]) hP hD [0, 1, 2, 3, 4] rfl hk1 hP1
                          generalize H1 = H at hP hS ⊢
                          refine lv_aload_n hx hb dL_paper_295 rfl (lv_at hl 3 rfl) ?_
                          refine lv_iload hx hb dL_paper_296 (lv_at hl 12 rfl) ?_
                          have hin := hq.1
                          have hq := hq.2
                          refine va_iald hx hb hK hP 6 0 rfl rfl hin dL_paper_298 ?_
                          refine lv_icmp_ne (tgt := 400) hx hb dL_paper_299 (by decide) (fun hc => ?_) (fun hc => ?_)
                          · have hq := hq.1 hc
                            exact hq _ _ _ hP hD hS (lv_sub hl [] rfl)
                          · have hq := hq.2 hc
                            refine lv_aload_n hx hb dL_paper_302 rfl (lv_at hl 1 rfl) ?_
                            refine lv_iload hx hb dL_paper_303 (lv_at hl 13 rfl) ?_
                            refine lv_bipush (v := 8) hx hb dL_paper_305 (by decide) ?_
                            refine lv_irem hx hb dL_paper_307 (by decide) ?_
                            refine lv_iload hx hb dL_paper_308 (lv_at hl 13 rfl) ?_
                            refine lv_bipush (v := 64) hx hb dL_paper_310 (by decide) ?_
                            refine lv_irem hx hb dL_paper_312 (by decide) ?_
                            refine lv_bipush (v := 8) hx hb dL_paper_313 (by decide) ?_
                            refine lv_idiv hx hb dL_paper_315 (by decide) ?_
                            refine lv_iload hx hb dL_paper_316 (lv_at hl 15 rfl) ?_
                            refine lv_iconst (v := 3) hx hb dL_paper_318 (by decide) ?_
                            have hPc := hP.sub (ws' := [(aR, .inr (4, [.ref naS, .ref saS, .int isSaved, .ref aHi, .ref taF, .ref aT])), (naS, .inr (2, [.ref naF, .ref naC, .long npat, .long ngoal])), (naC, .inl (cI, 128, .inl ncol)), (naF, .inr (0, [.ref naK, .int nmade, .int nmac])), (naK, .inl (cI, 6, .inl nks))]) [0, 1, 2, 3, 4] rfl
                            have hDc := hD.sub (ws' := [(aR, .inr (4, [.ref naS, .ref saS, .int isSaved, .ref aHi, .ref taF, .ref aT])), (naS, .inr (2, [.ref naF, .ref naC, .long npat, .long ngoal])), (naC, .inl (cI, 128, .inl ncol)), (naF, .inr (0, [.ref naK, .int nmade, .int nmac])), (naK, .inl (cI, 6, .inl nks))]) [0, 1, 2, 3, 4] (by decide) rfl
                            have hFc := va_free (wc := [(aR, .inr (4, [.ref naS, .ref saS, .int isSaved, .ref aHi, .ref taF, .ref aT])), (naS, .inr (2, [.ref naF, .ref naC, .long npat, .long ngoal])), (naC, .inl (cI, 128, .inl ncol)), (naF, .inr (0, [.ref naK, .int nmade, .int nmac])), (naK, .inl (cI, 6, .inl nks))]) hD hS hA [0, 1, 2, 3, 4] rfl
                            refine va_calli (va_runV (As := [.int (r_23 - r_23 / (8 : Int32) * (8 : Int32)), .int ((r_23 - r_23 / (64 : Int32) * (64 : Int32)) / (8 : Int32)), .int w15_25, .int (3 : Int32)]) (rest := []) ⟨hx, hb, hml, hown, hts⟩ (c_X5_layer l dC dI cI cC cS aR naS naC naF naK saS aHi taF aT _ isSaved npat ngoal ncol nmade nmac nks (r_23 - r_23 / (8 : Int32) * (8 : Int32)) ((r_23 - r_23 / (64 : Int32) * (64 : Int32)) / (8 : Int32)) w15_25 (3 : Int32) hq) (cwV 4 hts gL_paper_X5_layer rfl rfl rfl (by decide +kernel) ⟨Nat.le_of_ble_eq_true rfl, Nat.le_of_ble_eq_true rfl⟩) (gn_preV hPc hK hN hDc (ci := 4) (q0 := 0) rfl rfl) rfl rfl hl.1 rfl (lv_room (Nat.le_of_ble_eq_true rfl)) dL_paper_319 ⟨Nat.zero_le _, Nat.zero_le _⟩) hS (fun q _ h => hFc q h) hFc (fun r_42 u t H1 locs ht hvm hq hB hz1 hk1 hS => ?_)
                            obtain ⟨hP1, hK1, hD1⟩ := hB
                            rw [ht] at hP1
                            try dsimp only at hq
                            have hP := gn_ro (wc := [(aR, .inr (4, [.ref naS, .ref saS, .int isSaved, .ref aHi, .ref taF, .ref aT])), (naS, .inr (2, [.ref naF, .ref naC, .long npat, .long ngoal])), (naC, .inl (cI, 128, .inl ncol)), (naF, .inr (0, [.ref naK, .int nmade, .int nmac])), (naK, .inl (cI, 6, .inl nks))]) hP hD [0, 1, 2, 3, 4] rfl hk1 hP1
                            generalize H1 = H at hP hS ⊢
                            refine lv_iload hx hb dL_paper_322 (lv_at hl 16 rfl) ?_
                            refine lv_icmp_ne (tgt := 400) hx hb dL_paper_324 (by decide) (fun hc => ?_) (fun hc => ?_)
                            · have hq := hq.1 hc
                              exact hq _ _ _ hP hD hS (lv_sub hl [] rfl)
                            · have hq := hq.2 hc
                              refine lv_aload_n hx hb dL_paper_327 rfl (lv_at hl 1 rfl) ?_
                              refine lv_iload hx hb dL_paper_328 (lv_at hl 12 rfl) ?_
                              refine lv_iconst (v := 0) hx hb dL_paper_330 (by decide) ?_
                              have hPc := hP.sub (ws' := [(aR, .inr (4, [.ref naS, .ref saS, .int isSaved, .ref aHi, .ref taF, .ref aT])), (naS, .inr (2, [.ref naF, .ref naC, .long npat, .long ngoal])), (naC, .inl (cI, 128, .inl ncol))]) [0, 1, 2] rfl
                              have hDc := hD.sub (ws' := [(aR, .inr (4, [.ref naS, .ref saS, .int isSaved, .ref aHi, .ref taF, .ref aT])), (naS, .inr (2, [.ref naF, .ref naC, .long npat, .long ngoal])), (naC, .inl (cI, 128, .inl ncol))]) [0, 1, 2] (by decide) rfl
                              have hFc := va_free (wc := [(aR, .inr (4, [.ref naS, .ref saS, .int isSaved, .ref aHi, .ref taF, .ref aT])), (naS, .inr (2, [.ref naF, .ref naC, .long npat, .long ngoal])), (naC, .inl (cI, 128, .inl ncol))]) hD hS hA [0, 1, 2] rfl
                              refine va_calli (va_runV (As := [.int v12_7, .int (0 : Int32)]) (rest := []) ⟨hx, hb, hml, hown, hts⟩ (c_X5_colour l dC dI cI cC cS aR naS naC naF saS aHi taF aT _ isSaved npat ngoal ncol v12_7 (0 : Int32) hq) (cwV 2 hts gL_paper_X5_colour rfl rfl rfl (by decide +kernel) ⟨Nat.le_of_ble_eq_true rfl, Nat.le_of_ble_eq_true rfl⟩) (gn_preV hPc hK hN hDc (ci := 4) (q0 := 0) rfl rfl) rfl rfl hl.1 rfl (lv_room (Nat.le_of_ble_eq_true rfl)) dL_paper_331 ⟨Nat.zero_le _, Nat.zero_le _⟩) hS (fun q _ h => hFc q h) hFc (fun r_43 u t H1 locs ht hvm hq hB hz1 hk1 hS => ?_)
                              obtain ⟨hP1, hK1, hD1⟩ := hB
                              rw [ht] at hP1
                              try dsimp only at hq
                              have hP := gn_ro (wc := [(aR, .inr (4, [.ref naS, .ref saS, .int isSaved, .ref aHi, .ref taF, .ref aT])), (naS, .inr (2, [.ref naF, .ref naC, .long npat, .long ngoal])), (naC, .inl (cI, 128, .inl ncol))]) hP hD [0, 1, 2] rfl hk1 hP1
                              generalize H1 = H at hP hS ⊢
                              refine lv_aload_n hx hb dL_paper_334 rfl (lv_at hl 4 rfl) ?_
                              refine lv_iload hx hb dL_paper_335 (lv_at hl 12 rfl) ?_
                              have hin := hq.1
                              have hq := hq.2
                              refine va_iald hx hb hK hP 7 0 rfl rfl hin dL_paper_337 ?_
                              refine lv_icmp_ne (tgt := 400) hx hb dL_paper_338 (by decide) (fun hc => ?_) (fun hc => ?_)
                              · have hq := hq.1 hc
                                exact hq _ _ _ hP hD hS (lv_sub hl [] rfl)
                              · have hq := hq.2 hc
                                refine lv_aload_n hx hb dL_paper_341 rfl (lv_at hl 1 rfl) ?_
                                refine lv_iload hx hb dL_paper_342 (lv_at hl 12 rfl) ?_
                                refine lv_iconst (v := 1) hx hb dL_paper_344 (by decide) ?_
                                have hPc := hP.sub (ws' := [(aR, .inr (4, [.ref naS, .ref saS, .int isSaved, .ref aHi, .ref taF, .ref aT])), (naS, .inr (2, [.ref naF, .ref naC, .long npat, .long ngoal])), (naC, .inl (cI, 128, .inl ncol))]) [0, 1, 2] rfl
                                have hDc := hD.sub (ws' := [(aR, .inr (4, [.ref naS, .ref saS, .int isSaved, .ref aHi, .ref taF, .ref aT])), (naS, .inr (2, [.ref naF, .ref naC, .long npat, .long ngoal])), (naC, .inl (cI, 128, .inl ncol))]) [0, 1, 2] (by decide) rfl
                                have hFc := va_free (wc := [(aR, .inr (4, [.ref naS, .ref saS, .int isSaved, .ref aHi, .ref taF, .ref aT])), (naS, .inr (2, [.ref naF, .ref naC, .long npat, .long ngoal])), (naC, .inl (cI, 128, .inl ncol))]) hD hS hA [0, 1, 2] rfl
                                refine va_calli (va_runV (As := [.int v12_7, .int (1 : Int32)]) (rest := []) ⟨hx, hb, hml, hown, hts⟩ (c_X5_colour l dC dI cI cC cS aR naS naC naF saS aHi taF aT _ isSaved npat ngoal ncol v12_7 (1 : Int32) hq) (cwV 2 hts gL_paper_X5_colour rfl rfl rfl (by decide +kernel) ⟨Nat.le_of_ble_eq_true rfl, Nat.le_of_ble_eq_true rfl⟩) (gn_preV hPc hK hN hDc (ci := 4) (q0 := 0) rfl rfl) rfl rfl hl.1 rfl (lv_room (Nat.le_of_ble_eq_true rfl)) dL_paper_345 ⟨Nat.zero_le _, Nat.zero_le _⟩) hS (fun q _ h => hFc q h) hFc (fun r_44 u t H1 locs ht hvm hq hB hz1 hk1 hS => ?_)
                                obtain ⟨hP1, hK1, hD1⟩ := hB
                                rw [ht] at hP1
                                try dsimp only at hq
                                have hP := gn_ro (wc := [(aR, .inr (4, [.ref naS, .ref saS, .int isSaved, .ref aHi, .ref taF, .ref aT])), (naS, .inr (2, [.ref naF, .ref naC, .long npat, .long ngoal])), (naC, .inl (cI, 128, .inl ncol))]) hP hD [0, 1, 2] rfl hk1 hP1
                                generalize H1 = H at hP hS ⊢
                                refine lv_aload hx hb dL_paper_348 (lv_at hl 5 rfl) ?_
                                refine lv_iload hx hb dL_paper_350 (lv_at hl 12 rfl) ?_
                                have hin := hq.1
                                have hq := hq.2
                                refine va_iald hx hb hK hP 8 0 rfl rfl hin dL_paper_352 ?_
                                refine lv_icmp_ne (tgt := 400) hx hb dL_paper_353 (by decide) (fun hc => ?_) (fun hc => ?_)
                                · have hq := hq.1 hc
                                  exact hq _ _ _ hP hD hS (lv_sub hl [] rfl)
                                · have hq := hq.2 hc
                                  refine lv_aload_n hx hb dL_paper_356 rfl (lv_at hl 1 rfl) ?_
                                  refine lv_iload hx hb dL_paper_357 (lv_at hl 12 rfl) ?_
                                  refine lv_bipush (v := 8) hx hb dL_paper_359 (by decide) ?_
                                  refine lv_idiv hx hb dL_paper_361 (by decide) ?_
                                  have hPc := hP.sub (ws' := [(aR, .inr (4, [.ref naS, .ref saS, .int isSaved, .ref aHi, .ref taF, .ref aT])), (naS, .inr (2, [.ref naF, .ref naC, .long npat, .long ngoal]))]) [0, 1] rfl
                                  have hDc := hD.sub (ws' := [(aR, .inr (4, [.ref naS, .ref saS, .int isSaved, .ref aHi, .ref taF, .ref aT])), (naS, .inr (2, [.ref naF, .ref naC, .long npat, .long ngoal]))]) [0, 1] (by decide) rfl
                                  have hFc := va_free (wc := [(aR, .inr (4, [.ref naS, .ref saS, .int isSaved, .ref aHi, .ref taF, .ref aT])), (naS, .inr (2, [.ref naF, .ref naC, .long npat, .long ngoal]))]) hD hS hA [0, 1] rfl
                                  refine va_calli (va_runV (As := [.int (v12_7 / (8 : Int32))]) (rest := []) ⟨hx, hb, hml, hown, hts⟩ (c_X5_holes l dC dI cI cC cS aR naS naC naF saS aHi taF aT _ isSaved npat ngoal (v12_7 / (8 : Int32)) hq) (cwV 1 hts gL_paper_X5_holes rfl rfl rfl (by decide +kernel) ⟨Nat.le_of_ble_eq_true rfl, Nat.le_of_ble_eq_true rfl⟩) (gn_preV hPc hK hN hDc (ci := 4) (q0 := 0) rfl rfl) rfl rfl hl.1 rfl (lv_room (Nat.le_of_ble_eq_true rfl)) dL_paper_362 ⟨Nat.zero_le _, Nat.zero_le _⟩) hS (fun q _ h => hFc q h) hFc (fun r_45 u t H1 locs ht hvm hq hB hz1 hk1 hS => ?_)
                                  obtain ⟨hP1, hK1, hD1⟩ := hB
                                  rw [ht] at hP1
                                  try dsimp only at hq
                                  have hP := gn_ro (wc := [(aR, .inr (4, [.ref naS, .ref saS, .int isSaved, .ref aHi, .ref taF, .ref aT])), (naS, .inr (2, [.ref naF, .ref naC, .long npat, .long ngoal]))]) hP hD [0, 1] rfl hk1 hP1
                                  generalize H1 = H at hP hS ⊢
                                  refine lv_iload hx hb dL_paper_365 (lv_at hl 12 rfl) ?_
                                  refine lv_bipush (v := 8) hx hb dL_paper_367 (by decide) ?_
                                  refine lv_irem hx hb dL_paper_369 (by decide) ?_
                                  refine lv_ishr hx hb dL_paper_370 ?_
                                  refine lv_iconst (v := 1) hx hb dL_paper_371 (by decide) ?_
                                  refine lv_iand hx hb dL_paper_372 ?_
                                  refine lv_aload_n hx hb dL_paper_373 rfl (lv_at hl 3 rfl) ?_
                                  refine lv_iload hx hb dL_paper_374 (lv_at hl 12 rfl) ?_
                                  have hin := hq.1
                                  have hq := hq.2
                                  refine va_iald hx hb hK hP 6 0 rfl rfl hin dL_paper_376 ?_
                                  refine lv_icmp_ne (tgt := 400) hx hb dL_paper_377 (by decide) (fun hc => ?_) (fun hc => ?_)
                                  · have hq := hq.1 hc
                                    exact hq _ _ _ hP hD hS (lv_sub hl [] rfl)
                                  · have hq := hq.2 hc
                                    refine lv_aload_n hx hb dL_paper_380 rfl (lv_at hl 1 rfl) ?_
                                    refine lv_iload hx hb dL_paper_381 (lv_at hl 12 rfl) ?_
                                    refine lv_bipush (v := 8) hx hb dL_paper_383 (by decide) ?_
                                    refine lv_idiv hx hb dL_paper_385 (by decide) ?_
                                    have hPc := hP.sub (ws' := [(aR, .inr (4, [.ref naS, .ref saS, .int isSaved, .ref aHi, .ref taF, .ref aT])), (naS, .inr (2, [.ref naF, .ref naC, .long npat, .long ngoal]))]) [0, 1] rfl
                                    have hDc := hD.sub (ws' := [(aR, .inr (4, [.ref naS, .ref saS, .int isSaved, .ref aHi, .ref taF, .ref aT])), (naS, .inr (2, [.ref naF, .ref naC, .long npat, .long ngoal]))]) [0, 1] (by decide) rfl
                                    have hFc := va_free (wc := [(aR, .inr (4, [.ref naS, .ref saS, .int isSaved, .ref aHi, .ref taF, .ref aT])), (naS, .inr (2, [.ref naF, .ref naC, .long npat, .long ngoal]))]) hD hS hA [0, 1] rfl
                                    refine va_calli (va_runV (As := [.int (v12_7 / (8 : Int32))]) (rest := []) ⟨hx, hb, hml, hown, hts⟩ (c_X5_target l dC dI cI cC cS aR naS naC naF saS aHi taF aT _ isSaved npat ngoal (v12_7 / (8 : Int32)) hq) (cwV 1 hts gL_paper_X5_target rfl rfl rfl (by decide +kernel) ⟨Nat.le_of_ble_eq_true rfl, Nat.le_of_ble_eq_true rfl⟩) (gn_preV hPc hK hN hDc (ci := 4) (q0 := 0) rfl rfl) rfl rfl hl.1 rfl (lv_room (Nat.le_of_ble_eq_true rfl)) dL_paper_386 ⟨Nat.zero_le _, Nat.zero_le _⟩) hS (fun q _ h => hFc q h) hFc (fun r_46 u t H1 locs ht hvm hq hB hz1 hk1 hS => ?_)
                                    obtain ⟨hP1, hK1, hD1⟩ := hB
                                    rw [ht] at hP1
                                    try dsimp only at hq
                                    have hP := gn_ro (wc := [(aR, .inr (4, [.ref naS, .ref saS, .int isSaved, .ref aHi, .ref taF, .ref aT])), (naS, .inr (2, [.ref naF, .ref naC, .long npat, .long ngoal]))]) hP hD [0, 1] rfl hk1 hP1
                                    generalize H1 = H at hP hS ⊢
                                    refine lv_aload hx hb dL_paper_389 (lv_at hl 6 rfl) ?_
                                    refine lv_iload hx hb dL_paper_391 (lv_at hl 12 rfl) ?_
                                    refine lv_bipush (v := 8) hx hb dL_paper_393 (by decide) ?_
                                    refine lv_idiv hx hb dL_paper_395 (by decide) ?_
                                    have hin := hq.1
                                    have hq := hq.2
                                    refine va_iald hx hb hK hP 9 0 rfl rfl hin dL_paper_396 ?_
                                    refine lv_icmp_eq (tgt := 402) hx hb dL_paper_397 (by decide) (fun hc => ?_) (fun hc => ?_)
                                    · have hq := hq.1 hc
                                      refine lv_iinc (v := (v12_7 + (1 : Int32))) (lv' := [(12, .int (v12_7 + (1 : Int32))), (11, .int w11_34), (0, .ref aR), (1, .ref lf), (2, .ref lh), (3, .ref lu), (4, .ref ld), (5, .ref lt), (6, .int r_1), (7, .int r_2), (8, .int w8_28), (9, .int w9_31), (10, .int w10_32), (13, .int r_23), (14, .int w14_24), (15, .int w15_25), (17, .int t_27)]) hx hb dL_paper_402 hl (k := 12) rfl rfl (by decide) rfl (fun ls hl => ?_)
                                      refine lv_goto (tgt := 31) hx hb dL_paper_405 (by decide) ?_
                                      exact hq _ _ _ hP hD hS (lv_sub hl [2, 3, 4, 5, 6, 7, 8, 9, 10, 11, 12, 1, 0] rfl)
                                    · have hq := hq.2 hc
                                      exact hq _ _ _ hP hD hS (lv_sub hl [] rfl))
            refine lv_icmp_ne (tgt := 164) hx hb dL_paper_157 (by decide) (fun hc => ?_) (fun hc => ?_)
            · have hq := hq.1 hc
              refine lv_iconst (v := 1) hx hb dL_paper_164 (by decide) ?_
              exact hq _ _ _ hP hD hS (lv_sub hl [2, 3, 4, 5, 6, 7, 8, 9, 10, 1, 0, 12, 13, 14, 15, 17] rfl)
            · have hq := hq.2 hc
              refine lv_iconst (v := 0) hx hb dL_paper_160 (by decide) ?_
              refine lv_goto (tgt := 165) hx hb dL_paper_161 (by decide) ?_
              exact hq _ _ _ hP hD hS (lv_sub hl [2, 3, 4, 5, 6, 7, 8, 9, 10, 1, 0, 12, 13, 14, 15, 17] rfl))
          refine lv_if_le (tgt := 137) hx hb dL_paper_130 (by decide) (fun hc => ?_) (fun hc => ?_)
          · have hq := hq.1 hc
            refine lv_iconst (v := 0) hx hb dL_paper_137 (by decide) ?_
            exact hq _ _ _ hP hD hS (lv_sub hl [0, 1, 2, 3, 4, 5, 6, 7, 8, 9, 10, 11, 12, 13, 14, 15, 16] rfl)
          · have hq := hq.2 hc
            refine lv_iconst (v := 1) hx hb dL_paper_133 (by decide) ?_
            refine lv_goto (tgt := 138) hx hb dL_paper_134 (by decide) ?_
            exact hq _ _ _ hP hD hS (lv_sub hl [0, 1, 2, 3, 4, 5, 6, 7, 8, 9, 10, 11, 12, 13, 14, 15, 16] rfl))
        refine lv_if_le (tgt := 124) hx hb dL_paper_117 (by decide) (fun hc => ?_) (fun hc => ?_)
        · have hq := hq.1 hc
          refine lv_iconst (v := 0) hx hb dL_paper_124 (by decide) ?_
          exact hq _ _ _ hP hD hS (lv_sub hl [2, 3, 4, 5, 6, 7, 8, 9, 0, 11, 12, 13, 14, 15, 16, 17, 1] rfl)
        · have hq := hq.2 hc
          refine lv_iconst (v := 1) hx hb dL_paper_120 (by decide) ?_
          refine lv_goto (tgt := 125) hx hb dL_paper_121 (by decide) ?_
          exact hq _ _ _ hP hD hS (lv_sub hl [2, 3, 4, 5, 6, 7, 8, 9, 0, 11, 12, 13, 14, 15, 16, 17, 1] rfl))
      refine lv_if_ne (tgt := 95) hx hb dL_paper_85 (by decide) (fun hc => ?_) (fun hc => ?_)
      · have hq := hq.1 hc
        refine lv_aload hx hb dL_paper_95 (lv_at hl 8 rfl) ?_
        refine lv_iload hx hb dL_paper_97 (lv_at hl 16 rfl) ?_
        have hin := hq.1
        have hq := hq.2
        refine va_iald hx hb hK hP 8 0 rfl rfl hin dL_paper_99 ?_
        exact hq _ _ _ hP hD hS (lv_sub hl [4, 5, 6, 7, 8, 9, 10, 11, 12, 13, 14, 15, 16, 3, 2, 1, 0] rfl)
      · have hq := hq.2 hc
        refine lv_aload_n hx hb dL_paper_88 rfl (lv_at hl 7 rfl) ?_
        refine lv_iload hx hb dL_paper_89 (lv_at hl 16 rfl) ?_
        have hin := hq.1
        have hq := hq.2
        refine va_iald hx hb hK hP 7 0 rfl rfl hin dL_paper_91 ?_
        refine lv_goto (tgt := 100) hx hb dL_paper_92 (by decide) ?_
        exact hq _ _ _ hP hD hS (lv_sub hl [4, 5, 6, 7, 8, 9, 10, 11, 12, 13, 14, 15, 16, 3, 2, 1, 0] rfl))
  exact hq _ _ _ hP hD hS (lv_sub hl [7, 8, 9, 10, 11, 12, 6, 5, 4, 3, 2, 1, 0] rfl)
