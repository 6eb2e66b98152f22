/-- what is asked of private members of a nest mate, all of it -/
def gn_nw (U : State) : Prop := va_Nw (.methodLinkNest RX5 9 yX3_init RX5) U ∧ va_Nw (.methodLinkNest RX3 11 yX0_init RX5) U ∧ va_Nw (.methodLinkNest RX1 21 yX3_init RX5) U ∧ va_Nw (.methodLinkNest RX5 32 yX0_init RX5) U ∧ va_Nw (.methodLinkNest RX5 39 yX4_init RX5) U ∧ va_Nw (.methodLinkNest RX0 71 yX5_cellOf RX5) U ∧ va_Nw (.methodLinkNest RX3 89 yX5_cellOf RX5) U ∧ va_Nw (.methodLinkNest RX3 97 yX5_hasCell RX5) U ∧ va_Nw (.methodLinkNest RX3 103 yX5_isRow RX5) U ∧ va_Nw (.methodLinkNest RX3 106 yX5_maskOfRow RX5) U
theorem gn_nw_X5_9 {U : State} (h : gn_nw U) : va_Nw (.methodLinkNest RX5 9 yX3_init RX5) U := h.1
theorem gn_nw_X3_11 {U : State} (h : gn_nw U) : va_Nw (.methodLinkNest RX3 11 yX0_init RX5) U := h.2.1
theorem gn_nw_X1_21 {U : State} (h : gn_nw U) : va_Nw (.methodLinkNest RX1 21 yX3_init RX5) U := h.2.2.1
theorem gn_nw_X5_32 {U : State} (h : gn_nw U) : va_Nw (.methodLinkNest RX5 32 yX0_init RX5) U := h.2.2.2.1
theorem gn_nw_X5_39 {U : State} (h : gn_nw U) : va_Nw (.methodLinkNest RX5 39 yX4_init RX5) U := h.2.2.2.2.1
theorem gn_nw_X0_71 {U : State} (h : gn_nw U) : va_Nw (.methodLinkNest RX0 71 yX5_cellOf RX5) U := h.2.2.2.2.2.1
theorem gn_nw_X3_89 {U : State} (h : gn_nw U) : va_Nw (.methodLinkNest RX3 89 yX5_cellOf RX5) U := h.2.2.2.2.2.2.1
theorem gn_nw_X3_97 {U : State} (h : gn_nw U) : va_Nw (.methodLinkNest RX3 97 yX5_hasCell RX5) U := h.2.2.2.2.2.2.2.1
theorem gn_nw_X3_103 {U : State} (h : gn_nw U) : va_Nw (.methodLinkNest RX3 103 yX5_isRow RX5) U := h.2.2.2.2.2.2.2.2.1
theorem gn_nw_X3_106 {U : State} (h : gn_nw U) : va_Nw (.methodLinkNest RX3 106 yX5_maskOfRow RX5) U := h.2.2.2.2.2.2.2.2.2
theorem gn_nw_same {u U : State} (e : u.vm = U.vm) (h : gn_nw u) : gn_nw U := ⟨va_Nw.same rfl e (gn_nw_X5_9 h), va_Nw.same rfl e (gn_nw_X3_11 h), va_Nw.same rfl e (gn_nw_X1_21 h), va_Nw.same rfl e (gn_nw_X5_32 h), va_Nw.same rfl e (gn_nw_X5_39 h), va_Nw.same rfl e (gn_nw_X0_71 h), va_Nw.same rfl e (gn_nw_X3_89 h), va_Nw.same rfl e (gn_nw_X3_97 h), va_Nw.same rfl e (gn_nw_X3_103 h), va_Nw.same rfl e (gn_nw_X3_106 h)⟩
theorem gn_nw_warm {s U : State} (hW : s.WarmedH U.vm) (h : gn_nw s) : gn_nw U := ⟨va_Nw.warmM hW (gn_nw_X5_9 h), va_Nw.warmM hW (gn_nw_X3_11 h), va_Nw.warmM hW (gn_nw_X1_21 h), va_Nw.warmM hW (gn_nw_X5_32 h), va_Nw.warmM hW (gn_nw_X5_39 h), va_Nw.warmM hW (gn_nw_X0_71 h), va_Nw.warmM hW (gn_nw_X3_89 h), va_Nw.warmM hW (gn_nw_X3_97 h), va_Nw.warmM hW (gn_nw_X3_103 h), va_Nw.warmM hW (gn_nw_X3_106 h)⟩
abbrev gn_tys (cI cC cS : ClassId) : List (ClassId × FieldType) := [(cI, .int), (cI, .int), (cS, .object RX3)]
/-- a contract's start: its cells, what the tables say, the nest's words -/
def gn_Pre (D : va_G) (cI cC cS : ClassId) (av : List Value) (sz : Nat) (ws : va_W) : Array Value → State → Prop := va_Pc av (fun U => U.heap.size = sz ∧ va_P D vwCl ws U.heap ∧ va_K D vwCl (gn_tys cI cC cS) U ∧ gn_nw U ∧ va_D (fun _ => True) ws)
theorem gn_blind {D : va_G} {cI cC cS : ClassId} {av : List Value} {sz : Nat} {ws : va_W} : FrameBlind (gn_Pre D cI cC cS av sz ws) := fun a U g mk q => by
  obtain ⟨q0, q1, qP, qK, qN, qD⟩ := q
  exact ⟨q0, q1, qP, va_K.moved (u := U) (U := U.calling g mk a) (Vm.Alike.refl U.vm) qK, gn_nw_same (u := U) (U := U.calling g mk a) rfl qN, qD⟩
theorem gn_preS {D : va_G} {cI cC cS : ClassId} {s : State} {H : Heap} {A : Nat → Prop} {As : List Value} {ws : va_W} (hP : va_P D vwCl ws H) (hK : va_K D vwCl (gn_tys cI cC cS) s) (hN : gn_nw s) (hD : va_D A ws) : PreS s H (gn_Pre D cI cC cS As H.size ws) As :=
  ⟨gn_blind, fun U hU hW => ⟨rfl, by rw [hU], by rw [hU]; exact hP, va_K.moved hW.alike hK, gn_nw_warm hW hN, hD.weaken (fun _ _ _ _ => trivial)⟩⟩
theorem gn_preV {D : va_G} {cI cC cS : ClassId} {s : State} {H : Heap} {A : Nat → Prop} {As : List Value} {ws : va_W} {a q0 ci : Nat} {q : vw_C} {fs : List Value} (hP : va_P D vwCl ws H) (hK : va_K D vwCl (gn_tys cI cC cS) s) (hN : gn_nw s) (hD : va_D A ws) (hc : vwCl[ci]? = some q) (he : ws[q0]? = some (a, .inr (ci, fs))) : PreV s H q.1 a (gn_Pre D cI cC cS (.ref a :: As) H.size ws) As :=
  ⟨gn_blind, va_recv hK hP hc he, fun U hU hW => ⟨rfl, by rw [hU], by rw [hU]; exact hP, va_K.moved hW.alike hK, gn_nw_warm hW hN, hD.weaken (fun _ _ _ _ => trivial)⟩⟩
/-- the end of a method, kept apart as a word -/
theorem gn_Q {p : Program} {l : Launch} {e : Env} {R : Room} {s : State} {m : MethodId} {args : Array Value} {below : List Frame} {meth : Method} {c : Code} {H : Heap} {locs : List Loc} {cells slots : Nat} {Q0 : State → Prop} {g : JFrame} (hret : (State → Prop) → Prop) (k : ∀ Q : State → Prop, hret Q → W p l e R s m args below meth c H locs cells slots Q g) (h0 : hret Q0) : W p l e R s m args below meth c H locs cells slots Q0 g := k Q0 h0
theorem gn_nz {r : Int32} (h : r = 0 ∨ r = 1) : narrow .boolean (.int r) = .int r := by
  rcases h with rfl | rfl <;> decide
theorem gn_sw (lo hi : Int) (x : Int32) : (x.toInt < lo ∨ hi < x.toInt) ∨ ∃ j : Nat, lo + (j : Int) ≤ hi ∧ x = Int32.ofInt (lo + (j : Int)) := by
  by_cases h : x.toInt < lo ∨ hi < x.toInt
  · exact Or.inl h
  · refine Or.inr ⟨(x.toInt - lo).toNat, by omega, ?_⟩
    rw [show lo + (((x.toInt - lo).toNat : Nat) : Int) = x.toInt by omega]
    simp
