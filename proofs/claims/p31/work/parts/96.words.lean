def gn_six (a b c d e f : Nat) : Nat → Nat := fun j => if j = 0 then a else if j = 1 then b else if j = 2 then c else if j = 3 then d else if j = 4 then e else f
theorem gn_six_eq (a b c d e f : Nat) : ∀ j, j < 6 → (va_up (va_up (va_up (va_up (va_up (va_up (fun _ => none) 0 (some a)) 1 (some b)) 2 (some c)) 3 (some d)) 4 (some e)) 5 (some f) : Nat → Option Nat) j = some (gn_six a b c d e f j) := by
  intro j hj
  have : j = 0 ∨ j = 1 ∨ j = 2 ∨ j = 3 ∨ j = 4 ∨ j = 5 := by omega
  rcases this with rfl | rfl | rfl | rfl | rfl | rfl <;> rfl
theorem gn_arrV {cI : ClassId} {N : Nat} {f g : Nat → Value} (h : ∀ j, j < N → f j = g j) : arrV cI N f = arrV cI N g := by
  unfold arrV
  congr 2
  funext j
  exact h j.val j.isLt
theorem gn_swapq {D : va_G} {A : Nat → Prop} {ws : va_W} {H : Heap} {a n : Nat} {cA : ClassId} {f g : Nat → Option Nat} (hP : va_P D vwCl ws H) (hD : va_D A ws) (q0 : Nat) (ha : ws[q0]? = some (a, .inl (cA, n, .inr (.inr (.inr (.inr f)))))) (h : ∀ j, j < n → f j = g j) : va_P D vwCl (ws.set q0 (a, .inl (cA, n, .inr (.inr (.inr (.inr g)))))) H ∧ va_D A (ws.set q0 (a, .inl (cA, n, .inr (.inr (.inr (.inr g)))))) := by
  refine ⟨hP.set hD ha ?_ (fun _ _ => rfl), hD.set ha⟩
  have h1 : H[a]? = some (vp_cell cA (n, .inr (.inr (.inr (.inr f))))) := hP q0 _ ha
  show H[a]? = some (vp_cell cA (n, .inr (.inr (.inr (.inr g)))))
  rw [h1, vp_cell_q, vp_cell_q, gn_arrV (fun j hj => by rw [h j hj])]
def pap0 : Pap := (0, fun _ => 0, fun _ => false, fun _ => 0, fun _ => false)
theorem pap0_ok : fp_ok (qf pap0) (qn pap0) := ⟨fun i hi => absurd hi (Nat.not_lt_zero i), Nat.zero_le 3, Nat.zero_le 3⟩
theorem pap0_C : pC 0 0 (fun _ => 0) 0 0 (fun _ => 0) pap0 := ⟨pap0_ok, rfl, rfl, fun i hi => absurd hi (Nat.not_lt_zero i), fun c _ => ib_0 c, fun _ _ => rfl, fun c _ => ib_0 c⟩
theorem row0 : rowN (fun _ => false) 8 = 0 := by decide
theorem gI_0 : gI 0 0 (fun _ => 0) 0 0 (fun _ => 0) 0 (fun _ _ => 0) (fun _ => 0) (fun _ => 0) (fun _ _ => 0) (fun _ => 0) (fun _ => 0) (fun _ => 0) (fun _ => 0) (fun _ => 0) (fun _ => 0) (fun _ => 0) pap0 :=
  ⟨pap0_C, ⟨0, fun _ => pap0, Nat.zero_le 5, rfl, fun j hj => absurd hj (Nat.not_lt_zero j)⟩, ⟨rfl, fun i hi => absurd hi (Nat.not_lt_zero i)⟩, fun _ _ => rfl, fun _ _ => rfl, fun _ _ => rfl, fun r _ => by
    show (0 : Int32) = nI (rowN (fun _ => false) 8)
    rw [row0]
    rfl, fun _ _ => ⟨0, Nat.zero_le 5, rfl⟩⟩
set_option maxRecDepth 20000 in
theorem tb_nest_X5_9 : Cond.methodLinkNest RX5 9 yX3_init RX5 ∈ lw_tbl := by decide +kernel
set_option maxRecDepth 20000 in
theorem tb_nest_X3_11 : Cond.methodLinkNest RX3 11 yX0_init RX5 ∈ lw_tbl := by decide +kernel
set_option maxRecDepth 20000 in
theorem tb_nest_X1_21 : Cond.methodLinkNest RX1 21 yX3_init RX5 ∈ lw_tbl := by decide +kernel
set_option maxRecDepth 20000 in
theorem tb_nest_X5_32 : Cond.methodLinkNest RX5 32 yX0_init RX5 ∈ lw_tbl := by decide +kernel
set_option maxRecDepth 20000 in
theorem tb_nest_X5_39 : Cond.methodLinkNest RX5 39 yX4_init RX5 ∈ lw_tbl := by decide +kernel
set_option maxRecDepth 20000 in
theorem tb_nest_X0_71 : Cond.methodLinkNest RX0 71 yX5_cellOf RX5 ∈ lw_tbl := by decide +kernel
set_option maxRecDepth 20000 in
theorem tb_nest_X3_89 : Cond.methodLinkNest RX3 89 yX5_cellOf RX5 ∈ lw_tbl := by decide +kernel
set_option maxRecDepth 20000 in
theorem tb_nest_X3_97 : Cond.methodLinkNest RX3 97 yX5_hasCell RX5 ∈ lw_tbl := by decide +kernel
set_option maxRecDepth 20000 in
theorem tb_nest_X3_103 : Cond.methodLinkNest RX3 103 yX5_isRow RX5 ∈ lw_tbl := by decide +kernel
set_option maxRecDepth 20000 in
theorem tb_nest_X3_106 : Cond.methodLinkNest RX3 106 yX5_maskOfRow RX5 ∈ lw_tbl := by decide +kernel
set_option maxRecDepth 20000 in
theorem tb_over : Cond.arrayOver (.object RX3) ∈ lw_tbl := by decide +kernel
set_option maxRecDepth 20000 in
theorem tb_arr_int : Cond.arrayClass .int ∈ lw_tbl := by decide +kernel
set_option maxRecDepth 20000 in
theorem tb_inst_X0 : Cond.instantiable RX0 3 ∈ lw_tbl := by decide +kernel
set_option maxRecDepth 20000 in
theorem tb_inst_X1 : Cond.instantiable RX1 2 ∈ lw_tbl := by decide +kernel
set_option maxRecDepth 20000 in
theorem tb_inst_X3 : Cond.instantiable RX3 4 ∈ lw_tbl := by decide +kernel
set_option maxRecDepth 20000 in
theorem tb_inst_X4 : Cond.instantiable RX4 7 ∈ lw_tbl := by decide +kernel
set_option maxRecDepth 20000 in
theorem tb_inst_X5 : Cond.instantiable RX5 6 ∈ lw_tbl := by decide +kernel
set_option maxRecDepth 20000 in
theorem kwL_law_cl31 : Cond.classLink RL 31 RX5 ∈ wsL_law := by decide +kernel
set_option maxRecDepth 20000 in
theorem kwL_law_instX5 : Cond.instantiable RX5 6 ∈ wsL_law := by decide +kernel
set_option maxRecDepth 20000 in
theorem kwL_law_iniX5 : Cond.initialized RX5 ∈ wsL_law := by decide +kernel
set_option maxRecDepth 20000 in
theorem kwL_law_imX5_init : Cond.instanceMethod yX5_init ∈ wsL_law := by decide +kernel
set_option maxRecDepth 20000 in
theorem kwL_law_61 : Cond.methodLink RL 61 yX5_init ∈ wsL_law := by decide +kernel
