/-- behind a call that changed no value: the world as it was -/
theorem gn_ro {D : va_G} {cl : List vw_C} {A0 : Nat → Prop} {ws wc : va_W} {H H1 : Heap} (hP : va_P D cl ws H) (hD : va_D A0 ws) (isC : List Nat) (hC : isC.filterMap (fun i => ws[i]?) = wc) (hk : ∀ q : Nat, q < H.size → ¬ va_A wc H.size q → H1[q]? = H[q]?) (hP1 : va_P D cl wc H1) : va_P D cl ws H1 := by
  intro k q hq
  have hl := (hP k q hq).lt
  by_cases z : va_A wc H.size q.1
  · rcases z with ⟨j, e, h⟩ | h
    · have h2 := h
      rw [← hC] at h2
      obtain ⟨i, -, hi⟩ := List.mem_filterMap.mp (List.mem_of_getElem? h2)
      have hki := hD.1 k i q (q.1, e) hq hi rfl
      subst hki
      have h3 : q = (q.1, e) := Option.some.inj (hq.symm.trans hi)
      have g := hP1 j _ h
      rw [← h3] at g
      exact g
    · omega
  · exact (hP k q hq).kept (hk q.1 hl z)
theorem gl_nil {D : va_G} {cl : List vw_C} (H : Heap) : va_P D cl [] H := fun k q h => by simp at h
/-- the script, as a method of the law takes it -/
def gl_PreX (av : List Value) (b L : Nat) (xs : Nat → Int32) (sz : Nat) : Array Value → State → Prop := va_Pc av (fun U => U.heap.size = sz ∧ b < sz ∧ va_X b L xs U U.heap)
theorem gl_preX {s : State} {H : Heap} {A : Nat → Prop} {locs : List Loc} {As : List Value} {b L : Nat} {xs : Nat → Int32} (hX : va_X b L xs s s.heap) (hbl : b < s.heap.size) (hbA : ¬ A b) (hS : va_S A s.heap H locs) : PreS s H (gl_PreX As b L xs H.size) As :=
  ⟨fun a U g mk q => by
    obtain ⟨q0, q1, q2, q3⟩ := q
    exact ⟨q0, q1, q2, va_X.moved (u := U) (U := U.calling g mk a) (Vm.Alike.refl U.vm) q3⟩,
   fun U hU hW => ⟨rfl, by rw [hU], Nat.lt_of_lt_of_le hbl hS.1, by rw [hU]; exact va_X.moved hW.alike (va_X.kept hX (hS.2.1 b hbl hbA))⟩⟩
theorem gl_in {k : Int32} {L : Nat} (hL : L ≤ 260) (h0 : 0 ≤ k) (h : ¬ Int32.ofNat L ≤ k) : vp_in k L := by
  rcases pk_ix k (n := L) (by omega) with z | z | ⟨j, hj, rfl⟩
  · exact absurd z (Int32.not_lt.mpr h0)
  · exact absurd z h
  · exact vp_in_nI hj (by omega)
theorem kwL_cell_7 : Cond.constant RL 7 (32452867) ∈ wsL_cell := by decide +kernel
theorem kwL_cell_8 : Cond.constant RL 8 (15485863) ∈ wsL_cell := by decide +kernel
set_option maxHeartbeats 4000000 in
set_option maxRecDepth 100000 in
theorem c_L_cell (l : Launch) (b L : Nat) (xs : Nat → Int32) (hL : L ≤ 260) (sz : Nat) (k : Int32) (hk : 0 ≤ k) : Met l yL_cell wsL_cell ({ frames := 0, cells := 0, slots := 0, locals := 0 } : Room) (gl_PreX [.ref b, .int k] b L xs sz) (va_Qi (fun (r : Int32) (u : Unit) => True) (fun (u : Unit) t => True) (va_A [] sz)) 0 0 (va_A [] sz) := by
  refine Met.ofW (cc := cL_cell) (maxL := 2) (ret := (some .int)) (by decide) rfl ?_
  intro p e s m args below meth c s₁ B hml hv
  obtain ⟨rfl, hsz, hbl, hX⟩ := hv
  have hx := B.exec
  have hb := B.bytes
  have hr := B.returns
  have hts := atoms_spec (ws := wsL_cell) B.pre
  have hown : s.vm.findClass RL = some m.cls := findClass_of_methodNamed B.named
  subst hsz
  have hbA : ¬ va_A [] s.heap.size b := by
    rintro (⟨k, e, h⟩ | h)
    · simp at h
    · omega
  generalize hAe : va_A [] s.heap.size = A at hbA ⊢
  have hS : va_S A s.heap s.heap [] := va_S.rf
  have hl := lv_entry ([.ref b, .int k] : List Value) (n := 2) (Nat.le_of_ble_eq_true rfl)
  rw [lg_entry_eq]
  generalize (lg_sl ([.ref b, .int k] : List Value) ++ List.replicate (2 - (lg_sl ([.ref b, .int k] : List Value)).length) Slot.unset).toArray = ls at hl ⊢
  have hl : lv_has ls 2 [(0, .ref b), (1, .int k)] := hl
  refine lv_iload_n hx hb dL_cell_0 rfl (lv_at hl 1 rfl) ?_
  refine lv_aload_n hx hb dL_cell_1 rfl (lv_at hl 0 rfl) ?_
  refine va_slen hx hb hX hbl hbA hS dL_cell_2 ?_
  refine lv_icmp_ge (tgt := 12) hx hb dL_cell_3 (by decide) (fun hc => ?_) (fun hc => ?_)
  · refine lv_ldc (v := 32452867) hx hb hown (hts _ kwL_cell_7) dL_cell_12 ?_
    refine lv_iload_n hx hb dL_cell_14 rfl (lv_at hl 1 rfl) ?_
    refine lv_imul hx hb dL_cell_15 ?_
    refine lv_ldc (v := 15485863) hx hb hown (hts _ kwL_cell_8) dL_cell_16 ?_
    refine lv_iadd hx hb dL_cell_18 ?_
    exact W.iret (v := ((32452867 : Int32) * k + (15485863 : Int32))) hx hb hr (fun t ht hW => ⟨⟨_, (), rfl, trivial, trivial⟩, hS.F ht⟩) hS.2.2 dL_cell_19
  · refine lv_aload_n hx hb dL_cell_6 rfl (lv_at hl 0 rfl) ?_
    refine lv_iload_n hx hb dL_cell_7 rfl (lv_at hl 1 rfl) ?_
    refine va_sld hx hb hX hbl hbA hS (gl_in hL hk hc) dL_cell_8 ?_
    refine lv_goto (tgt := 19) hx hb dL_cell_9 (by decide) ?_
    exact W.iret (v := xs (k.toNatClampNeg)) hx hb hr (fun t ht hW => ⟨⟨_, (), rfl, trivial, trivial⟩, hS.F ht⟩) hS.2.2 dL_cell_19
