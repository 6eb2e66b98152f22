/-! the class's looks, as the law makes them -/
def qFr (p : Pap) (c r : Nat) : Nat → Bool := fun x => !(qp p x || fp_in (qf p) (qn p) c r (2 ^ qn p) x)
section
variable {npat ngoal : Int64} {ncol : Nat → Int32} {nmade nmac : Int32} {nks : Nat → Int32} {x1 x2 x3 x4 : Int32} {post : Int32 → Prop}
theorem cl_where (p : Pap) (hC : pC npat ngoal ncol nmade nmac nks p) (y t : Nat) (hy : y < 64) (ht : t < 4) (e1 : x1 = nI y) (e2 : x2 = nI t) (v : Nat) (hv : (if t = 0 then (fp_pl (qf p) (qn p) y).1 else if t = 1 then (fp_pl (qf p) (qn p) y).2.1 else if t = 2 then (fp_pl (qf p) (qn p) y).2.2.1 else (fp_pl (qf p) (qn p) y).2.2.2) = v) (h : post (nI v)) : wp_X5_where nmade nks x1 x2 post := by
  subst e1 e2 hv
  refine pu_isCell _ (fun z => absurd rfl (z y hy)) (fun j hj e => ?_)
  refine ⟨fun _ => ?_, fun q => absurd q (by decide)⟩
  intro P hP
  refine br_f (nI_pos (by omega)) (br_t (nI_le (b := 3) (by omega) (by omega)) ?_)
  exact pu_placeOf (qf p) (qn p) hC.1 hC.2.1 hC.2.2.2.1 y t hy ht h
theorem cl_layer (p : Pap) (hC : pC npat ngoal ncol nmade nmac nks p) (c r i : Nat) (hc : c < qw p) (hr : r < qh p) (hi : i < 2 ^ qn p) (e1 : x1 = nI c) (e2 : x2 = nI r) (e3 : x3 = nI i) (hx : ¬ (x4.toInt < 0 ∨ 3 < x4.toInt))
    (h0 : x4 = 0 → post (nI (qu p c r i / 2))) (h1 : x4 = 1 → post (nI (qu p c r i % 2))) (h2 : x4 = 2 → post (bI (qp p (qu p c r i / 2)))) (h3 : x4 = 3 → post (qc p (qu p c r i))) : wp_X5_layer npat ncol nmade nmac nks x1 x2 x3 x4 post := by
  subst e1 e2 e3
  obtain ⟨ok, hn, hm, hks_, h5, h6, h7⟩ := hC
  have bw := fp_w_b _ _ ok
  have bh := fp_h_b _ _ ok
  have bL := fp_L_b (fp_ok_6 ok)
  have us := fp_us_lt _ _ c r i ok hc hr hi
  have us' : qu p c r i < 128 := us
  refine pu_hasLayer _ _ ok hn hm (fun z => absurd ⟨rfl, rfl, rfl⟩ (z c r i hc hr hi)) (fun c' r' i' hc' hr' hi' _ _ _ => ?_)
  refine ⟨fun _ => ?_, fun q => absurd q (by decide)⟩
  refine pu_upperSide _ _ ok hn hm hks_ c r i hc hr hi ?_
  refine ⟨fun z => absurd z hx, fun e => pu_cellOf _ (by omega) (h0 e), fun e => ?_, fun e => ?_, fun e => ?_⟩
  · rw [show nI (fp_us (qf p) (qn p) c r i) &&& (1 : Int32) = nI (fp_us (qf p) (qn p) c r i % 2) from pk_andN (by omega) 1 (by decide)]
    exact h1 e
  · refine pu_cellOf _ (by omega) ?_
    refine pu_hasCell _ (by omega) ?_
    rw [h5 _ (by omega)]
    have := h2 e
    refine pu_br (fun z => ?_) (fun z => ?_)
    · rw [show qp p (qu p c r i / 2) = false from z] at this; exact this
    · rw [show qp p (qu p c r i / 2) = true from z] at this; exact this
  · refine pu_colourOf _ us' ?_
    rw [h6 _ us']
    exact h3 e
theorem cl_colour (p : Pap) (hC : pC npat ngoal ncol nmade nmac nks p) (y t : Nat) (hy : y < 64) (ht : t < 2) (e1 : x1 = nI y) (e2 : x2 = nI t) (h : post (qc p (2 * y + t))) : wp_X5_colour ncol x1 x2 post := by
  subst e1 e2
  refine pu_isCell _ (fun z => absurd rfl (z y hy)) (fun j hj e => ?_)
  refine ⟨fun _ => ?_, fun q => absurd q (by decide)⟩
  intro P hP
  refine br_f (nI_pos (by omega)) (br_t (nI_le (b := 1) (by omega) (by omega)) ?_)
  rw [show (2 : Int32) * nI y = nI (2 * y) from pk_mul 2 y, nI_add]
  refine pu_colourOf _ (by omega) ?_
  rw [hC.2.2.2.2.2.1 _ (by omega)]
  exact h
theorem cl_holes (p : Pap) (hC : pC npat ngoal ncol nmade nmac nks p) (r : Nat) (hr : r < 8) (e1 : x1 = nI r) (h : post (nI (rowN (fun c => qp p (8 * r + c)) 8))) : wp_X5_holes npat x1 post := by
  subst e1
  refine pu_isRow _ (fun z => absurd rfl (z r hr)) (fun j hj e => ?_)
  refine br_f (by decide) ?_
  refine pu_maskOfRow r hr (fun m hm' hb => ?_)
  rw [show m = rowN (fun c => qp p (8 * r + c)) 8 from rowN_of hm' (fun c hc => by rw [hb c hc, hC.2.2.2.2.1 _ (by omega)])]
  exact h
theorem cl_target (p : Pap) (hC : pC npat ngoal ncol nmade nmac nks p) (r : Nat) (hr : r < 8) (e1 : x1 = nI r) (h : post (nI (rowN (fun c => qg p (8 * r + c)) 8))) : wp_X5_target ngoal x1 post := by
  subst e1
  refine pu_isRow _ (fun z => absurd rfl (z r hr)) (fun j hj e => ?_)
  refine br_f (by decide) ?_
  refine pu_maskOfRow r hr (fun m hm' hb => ?_)
  rw [show m = rowN (fun c => qg p (8 * r + c)) 8 from rowN_of hm' (fun c hc => by rw [hb c hc, hC.2.2.2.2.2.2 _ (by omega)])]
  exact h
theorem cl_size (p : Pap) (hC : pC npat ngoal ncol nmade nmac nks p) (hx : ¬ (x1.toInt < 0 ∨ 3 < x1.toInt)) (h0 : x1 = 0 → post (nI (qw p))) (h1 : x1 = 1 → post (nI (qh p))) (h2 : x1 = 2 → post (nI (2 ^ qn p))) (h3 : x1 = 3 → post (nI (qn p))) : wp_X5_size nmade nmac x1 post := by
  obtain ⟨ok, hn, hm, -⟩ := hC
  refine ⟨fun z => absurd z hx, fun e => pu_columns _ _ ok hm (h0 e), fun e => pu_rows _ _ ok hn hm (h1 e), fun e => pu_layers _ (fp_ok_6 ok) hn (h2 e), fun e => ?_⟩
  rw [hn]
  exact h3 e
theorem cl_foldAt (p : Pap) (hC : pC npat ngoal ncol nmade nmac nks p) (j : Nat) (hj : j < 6) (e1 : x1 = nI j) (h0 : qn p ≤ j → post (-1)) (h1 : j < qn p → post (nI (qf p j))) : wp_X5_foldAt nmade nks x1 post := by
  subst e1
  obtain ⟨ok, hn, hm, hk, -⟩ := hC
  have h6 := fp_ok_6 ok
  refine pu_hasFold (qn p) h6 hn (fun z => ?_) (fun j' hj' e => ?_)
  · refine br_t rfl (h0 ?_)
    exact Nat.le_of_not_lt (fun q => z j q rfl)
  · have ej : j' = j := (nI_eq (by omega) (by omega)).mp e.symm
    subst ej
    refine br_f (by decide) ?_
    refine pu_kindOf _ hj ?_
    rw [hk _ hj']
    exact h1 hj'
theorem cl_count (p : Pap) (hC : pC npat ngoal ncol nmade nmac nks p) (lab : Nat → Nat) (hL : Lb (fun x => !qp p x) lab) (hx : ¬ (x1.toInt < 0 ∨ 5 < x1.toInt)) (h0 : x1 = 0 → post (nI (ct (qp p) 64))) (h1 : x1 = 1 → post (nI (ct (isR (fun x => !qp p x) lab) 64))) (h2 : x1 = 2 → post (nI (mxP (fun x => !qp p x) lab 64))) (h3 : x1 = 3 → post (nI (ct (fun s => decide (qc p s ≠ 0)) 128))) (h4 : x1 = 4 → post (nI (ct (qg p) 64))) (h5 : x1 = 5 → post (nI (ct (fun j => qp p j ^^ qg p j) 64))) : wp_X5_count npat ngoal ncol x1 post := by
  have fr : ∀ i, i < 64 → ib (npat ^^^ (-1 : Int64)) i = (fun x => !qp p x) i := fun i hi => by rw [ib_not npat hi, hC.2.2.2.2.1 i hi]
  refine ⟨fun z => absurd z hx, fun e => pu_bitCount ?_, fun e => pu_numberIn _ lab hL fr (h1 e), fun e => pu_largestIn _ lab hL fr (h2 e), fun e => pu_colouredSides (qc p) hC.2.2.2.2.2.1 (h3 e), fun e => pu_bitCount ?_, fun e => pu_bitCount ?_⟩
  · rw [cB_pat hC]
    exact h0 e
  · rw [show cB ngoal = ct (qg p) 64 from ct_congr (fun c hc => hC.2.2.2.2.2.2 c hc)]
    exact h4 e
  · rw [show cB (npat ^^^ ngoal) = ct (fun j => qp p j ^^ qg p j) 64 from ct_congr (fun c hc => by rw [ib_xor, hC.2.2.2.2.1 c hc, hC.2.2.2.2.2.2 c hc])]
    exact h5 e
theorem cl_seen (p : Pap) (hC : pC npat ngoal ncol nmade nmac nks p) (c r : Nat) (hc : c < qw p) (hr : r < qh p) (e1 : x1 = nI c) (e2 : x2 = nI r) (h0 : qT p c r = 2 ^ qn p → post (-6)) (h1 : qT p c r < 2 ^ qn p → post (nI (10 * (qu p c r (qT p c r) / 2)) + qc p (qu p c r (qT p c r)))) : wp_X5_seen npat ncol nmade nmac nks x1 x2 post := by
  subst e1 e2
  have ok := hC.1
  refine pu_hasField _ _ ok hC.2.1 hC.2.2.1 (fun z => absurd ⟨rfl, rfl⟩ (z c r hc hr)) (fun c' r' hc' hr' _ _ => ?_)
  refine ⟨fun _ => ?_, fun q => absurd q (by decide)⟩
  refine pu_uppermostWhole p hC c r hc hr (fun z => ?_) (fun z => ?_)
  · exact ⟨fun q => absurd rfl q, fun _ => h0 z⟩
  · have us := fp_us_lt _ _ c r _ ok hc hr z
    have us' : qu p c r (qT p c r) < 128 := us
    refine ⟨fun _ => ?_, fun q => absurd q (pm_ne6 (by omega))⟩
    refine pu_cellOf _ (by omega) ?_
    refine pu_colourOf _ us' ?_
    rw [hC.2.2.2.2.2.1 _ us', show (10 : Int32) * nI (qu p c r (qT p c r) / 2) = nI (10 * (qu p c r (qT p c r) / 2)) from pk_mul 10 _]
    exact h1 z
theorem cl_ifPunched (p : Pap) (hC : pC npat ngoal ncol nmade nmac nks p) (c r : Nat) (hc : c < qw p) (hr : r < qh p) (e1 : x1 = nI c) (e2 : x2 = nI r) (lab : Nat → Nat) (hL : Lb (qFr p c r) lab) (h : post (nI (ct (isR (qFr p c r) lab) 64))) : wp_X5_ifPunched npat nmade nmac nks x1 x2 post := by
  subst e1 e2
  have ok := hC.1
  refine pu_hasField _ _ ok hC.2.1 hC.2.2.1 (fun z => absurd ⟨rfl, rfl⟩ (z c r hc hr)) (fun c' r' hc' hr' _ _ => ?_)
  refine ⟨fun _ => ?_, fun q => absurd q (by decide)⟩
  refine pu_layers _ (fp_ok_6 ok) hC.2.1 ?_
  refine pu_uppermostCells _ _ ok hC.2.1 hC.2.2.1 hC.2.2.2.1 c r (2 ^ qn p) hc hr (Nat.le_refl _) (fun s hs => ?_)
  refine pu_numberIn (qFr p c r) lab hL (fun i hi => ?_) h
  rw [ib_not _ hi, ib_or, hC.2.2.2.2.1 i hi, hs i hi]
  rfl
end
