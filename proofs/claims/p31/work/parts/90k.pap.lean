/-! the law's look at the whole paper -/
/-- the law's rows hold the paper -/
def lR (p : Pap) (vf vh vu vd vt : Nat → Int32) : Prop := fR vf (qf p) (qn p) ∧ (∀ c, c < 64 → vh c = bI (qp p c)) ∧ (∀ c, c < 64 → vu c = qc p (2 * c)) ∧ (∀ c, c < 64 → vd c = qc p (2 * c + 1)) ∧ tR vt (qg p) ∧ ∀ s, s < 128 → ∃ k, k ≤ 5 ∧ qc p s = nI k
theorem pp_up {P : Int32 → Prop} {V : Prop} (hV : V) {a b v : Int32} {u : Nat} (hu : u ≤ 1) (ha : u = 0 → a = v) (hb : u = 1 → b = v) (h : P v) : ((¬ nI u = 0) → V ∧ P b) ∧ ((nI u = 0) → V ∧ P a) := by
  have : u = 0 ∨ u = 1 := by omega
  rcases this with z | z
  · subst z
    refine br_e rfl ⟨hV, ?_⟩
    rw [ha rfl]; exact h
  · subst z
    refine br_n (by decide) ⟨hV, ?_⟩
    rw [hb rfl]; exact h
theorem pp_c {P : Int32 → Prop} {x : Int32} (hx : ∃ k, k ≤ 5 ∧ x = nI k) (h : P (nI (if decide (x ≠ 0) = true then 1 else 0))) : ((x ≤ 0) → P (0 : Int32)) ∧ ((¬ x ≤ 0) → P (1 : Int32)) := by
  obtain ⟨k, hk, rfl⟩ := hx
  refine pk_le k 0 (fun z => ?_) (fun z => ?_)
  · have : k = 0 := by omega
    subst this
    rw [if_neg (by decide)] at h
    exact h
  · rw [if_pos (decide_eq_true (nI_ne0 z (by omega)))] at h
    exact h
theorem pp_x {P : Int32 → Prop} {a b : Bool} (h : P (nI (if (a ^^ b) = true then 1 else 0))) : ((¬ bI b = bI a) → P (1 : Int32)) ∧ ((bI b = bI a) → P (0 : Int32)) := by
  cases a <;> cases b
  · exact br_e rfl h
  · exact br_n (by decide) h
  · exact br_n (by decide) h
  · exact br_e rfl h
theorem row_bit {g : Nat → Bool} {y : Nat} (hy : y < 64) : ((nI (rowN (fun c => g (8 * (y / 8) + c)) 8) >>> (nI (y % 8) &&& (31 : Int32))) &&& (1 : Int32)) = bI (g y) := by
  rw [pm_bit _ (rowN_lt _ 8) (y % 8) (by omega), rowN_bit _ 8 (y % 8) (by omega), show 8 * (y / 8) + y % 8 = y by omega]
set_option maxHeartbeats 2000000 in
theorem pl_paper {npat ngoal : Int64} {ncol : Nat → Int32} {nmade nmac : Int32} {nks vf vh vu vd vt : Nat → Int32} {post : Int32 → Prop} (p : Pap) (hC : pC npat ngoal ncol nmade nmac nks p) (hR : lR p vf vh vu vd vt) (h : post 1) : wp_L_paper npat ngoal ncol nmade nmac nks vf vh vu vd vt post := by
  have ok := hC.1
  have n6 := fp_ok_6 ok
  have bL := fp_L_b n6
  have bw := fp_w_b _ _ ok
  have bh := fp_h_b _ _ ok
  obtain ⟨hf, hh, hu, hd, ht, hk5⟩ := hR
  obtain ⟨lab, hL⟩ := lab_ex (fun x => !qp p x)
  refine ⟨in_6, ?_⟩
  rw [cl_6, hf.1]
  refine pl_wide (qf p) (qn p) (qn p) (Nat.le_refl _) ok hf rfl ?_
  refine pl_layers _ _ ok hf ?_
  intro P31 h31
  have key : ∀ d j, j + d = 64 → P31 (nI (ct (qp p) j)) (nI (ct (fun s => decide (qc p s ≠ 0)) (2 * j))) (nI (ct (qg p) j)) (nI (ct (fun j => qp p j ^^ qg p j) j)) (nI j) := by
    intro d
    induction d with
    | zero =>
      intro j hj
      have ej : j = 64 := by omega
      subst ej
      refine h31 _ _ _ _ _ (br_t (nI_le (a := 64) (b := 64) (Nat.le_refl _) (by decide)) ?_)
      intro P411 h411
      have key2 : ∀ d k, k + d = 6 → P411 (nI k) := by
        intro d
        induction d with
        | zero =>
          intro k hk
          have ek : k = 6 := by omega
          subst ek
          refine h411 _ (br_t (nI_le (a := 6) (b := 6) (Nat.le_refl _) (by decide)) ?_)
          refine pl_pieces (fun x => !qp p x) lab hL (fun x hx => by rw [hh x hx, Bool.not_not]) ?_
          have l1 := ct_le (isR (fun x => !qp p x) lab) 64
          have l2 := mxP_le (fun x => !qp p x) lab 64
          have er : nI (ct (isR (fun x => !qp p x) lab) 64 + 100 * mxP (fun x => !qp p x) lab 64) - nI (ct (isR (fun x => !qp p x) lab) 64 + 100 * mxP (fun x => !qp p x) lab 64) / (100 : Int32) * (100 : Int32) = nI (ct (isR (fun x => !qp p x) lab) 64) := by
            rw [show nI (ct (isR (fun x => !qp p x) lab) 64 + 100 * mxP (fun x => !qp p x) lab 64) - nI (ct (isR (fun x => !qp p x) lab) 64 + 100 * mxP (fun x => !qp p x) lab 64) / (100 : Int32) * (100 : Int32) = nI ((ct (isR (fun x => !qp p x) lab) 64 + 100 * mxP (fun x => !qp p x) lab 64) % 100) from pk_rem (d := 100) (by omega) (by decide) (by decide)]
            congr 1
            omega
          have ed : nI (ct (isR (fun x => !qp p x) lab) 64 + 100 * mxP (fun x => !qp p x) lab 64) / (100 : Int32) = nI (mxP (fun x => !qp p x) lab 64) := by
            rw [show nI (ct (isR (fun x => !qp p x) lab) 64 + 100 * mxP (fun x => !qp p x) lab 64) / (100 : Int32) = nI ((ct (isR (fun x => !qp p x) lab) 64 + 100 * mxP (fun x => !qp p x) lab 64) / 100) from pk_div (d := 100) (by omega) (by decide) (by decide)]
            congr 1
            omega
          rw [er, ed]
          refine cl_size p hC (by decide) (fun _ => ?_) (fun q => absurd q (by decide)) (fun q => absurd q (by decide)) (fun q => absurd q (by decide))
          intro P576 h576
          refine br_e rfl ?_
          refine cl_size p hC (by decide) (fun q => absurd q (by decide)) (fun _ => ?_) (fun q => absurd q (by decide)) (fun q => absurd q (by decide))
          refine ⟨in_6, pl_high (qf p) (qn p) (qn p) (Nat.le_refl _) ok hf rfl ?_⟩
          refine br_e rfl ?_
          refine cl_size p hC (by decide) (fun q => absurd q (by decide)) (fun q => absurd q (by decide)) (fun _ => ?_) (fun q => absurd q (by decide))
          refine br_e rfl ?_
          refine cl_size p hC (by decide) (fun q => absurd q (by decide)) (fun q => absurd q (by decide)) (fun q => absurd q (by decide)) (fun _ => ?_)
          refine ⟨in_6, br_e rfl ?_⟩
          refine cl_count p hC lab hL (by decide) (fun _ => ?_) (fun q => absurd q (by decide)) (fun q => absurd q (by decide)) (fun q => absurd q (by decide)) (fun q => absurd q (by decide)) (fun q => absurd q (by decide))
          refine br_e rfl ?_
          refine cl_count p hC lab hL (by decide) (fun q => absurd q (by decide)) (fun _ => ?_) (fun q => absurd q (by decide)) (fun q => absurd q (by decide)) (fun q => absurd q (by decide)) (fun q => absurd q (by decide))
          refine br_e rfl ?_
          refine cl_count p hC lab hL (by decide) (fun q => absurd q (by decide)) (fun q => absurd q (by decide)) (fun _ => ?_) (fun q => absurd q (by decide)) (fun q => absurd q (by decide)) (fun q => absurd q (by decide))
          refine br_e rfl ?_
          refine cl_count p hC lab hL (by decide) (fun q => absurd q (by decide)) (fun q => absurd q (by decide)) (fun q => absurd q (by decide)) (fun _ => ?_) (fun q => absurd q (by decide)) (fun q => absurd q (by decide))
          refine br_e rfl ?_
          refine cl_count p hC lab hL (by decide) (fun q => absurd q (by decide)) (fun q => absurd q (by decide)) (fun q => absurd q (by decide)) (fun q => absurd q (by decide)) (fun _ => ?_) (fun q => absurd q (by decide))
          refine br_e rfl ?_
          refine cl_count p hC lab hL (by decide) (fun q => absurd q (by decide)) (fun q => absurd q (by decide)) (fun q => absurd q (by decide)) (fun q => absurd q (by decide)) (fun q => absurd q (by decide)) (fun _ => ?_)
          exact br_e rfl ⟨Or.inr rfl, h⟩
        | succ d ih2 =>
          intro k hk
          have nx := ih2 (k + 1) (by omega)
          refine h411 _ (br_f (nI_ge (a := k) (b := 6) (by omega) (by omega)) ?_)
          refine cl_foldAt p hC k (by omega) rfl (fun z => ?_) (fun z => ?_)
          · refine ⟨in_6, fun P441 h441 => ?_⟩
            refine br_t (nI_le z (by omega)) (h441 _ (br_t rfl ?_))
            rw [pu_i1]
            exact nx
          · refine ⟨in_6, fun P441 h441 => ?_⟩
            refine br_f (nI_ge z (by omega)) ⟨vp_in_nI (by omega) (by omega), h441 _ (br_t ?_ ?_)⟩
            · rw [nI_clamp (by omega), hf.2 k z]
            · rw [pu_i1]
              exact nx
      exact key2 6 0 (by omega)
    | succ d ih =>
      intro j hj
      have j64 : j < 64 := by omega
      have ij : vp_in (nI j) 64 := vp_in_nI j64 (by omega)
      have nx := ih (j + 1) (by omega)
      refine h31 _ _ _ _ _ (br_f (nI_ge (a := j) (b := 64) (by omega) (by omega)) ?_)
      refine pl_where _ _ ok hf j j64 rfl ?_
      have hb := fp_pl_b (qf p) (qn p) j ok j64
      have us := fp_us_pl (qf p) (qn p) j ok j64
      generalize hq : fp_pl (qf p) (qn p) j = q at hb us ⊢
      obtain ⟨c, r, i, u⟩ := q
      obtain ⟨b1, b2, b3, b4⟩ := hb
      dsimp only at b1 b2 b3 b4 us ⊢
      have v := wh_v (c := c) (r := r) (i := i) (u := u) (by omega) (by omega) (by omega) b4
      generalize hV : c + 8 * r + 64 * i + 4096 * u = V at v ⊢
      have V2 : V < 2 ^ 31 := by omega
      have e2 : (nI V - nI V / (4096 : Int32) * (4096 : Int32)) / (64 : Int32) = nI i := by
        rw [show nI V - nI V / (4096 : Int32) * (4096 : Int32) = nI (V % 4096) from pk_rem (d := 4096) V2 (by decide) (by decide), show nI (V % 4096) / (64 : Int32) = nI (V % 4096 / 64) from pk_div (d := 64) (by omega) (by decide) (by decide), v.2.1, v.2.2.2.2.2.1]
      have e1 : nI V / (4096 : Int32) = nI u := by
        rw [show nI V / (4096 : Int32) = nI (V / 4096) from pk_div (d := 4096) V2 (by decide) (by decide), v.1]
      have e3 : nI V - nI V / (8 : Int32) * (8 : Int32) = nI c := by
        rw [show nI V - nI V / (8 : Int32) * (8 : Int32) = nI (V % 8) from pk_rem (d := 8) V2 (by decide) (by decide), v.2.2.1]
      have e4 : (nI V - nI V / (64 : Int32) * (64 : Int32)) / (8 : Int32) = nI r := by
        rw [show nI V - nI V / (64 : Int32) * (64 : Int32) = nI (V % 64) from pk_rem (d := 64) V2 (by decide) (by decide), show nI (V % 64) / (8 : Int32) = nI (V % 64 / 8) from pk_div (d := 8) (by omega) (by decide) (by decide), v.2.2.2.1, v.2.2.2.2.1]
      have r8 : nI j - nI j / (8 : Int32) * (8 : Int32) = nI (j % 8) := pk_rem (d := 8) (by omega) (by decide) (by decide)
      have d8 : nI j / (8 : Int32) = nI (j / 8) := pk_div (d := 8) (by omega) (by decide) (by decide)
      rw [e2, e1, e4, e3, r8, d8, nI_clamp (n := j) (by omega), nI_clamp (n := j / 8) (by omega), hh j j64, hu j j64, hd j j64]
      refine nm_e ?_
      refine nm_e ?_
      refine ⟨vp_in_nI (by omega) (by omega), ?_⟩
      refine nm_r (tR_bit ht j64) ?_
      intro P100 h100
      have qe : qu p c r i = 2 * j + u := us
      have qe2 : (2 * j + u) / 2 = j := by omega
      have qe3 : (2 * j + u) % 2 = u := by omega
      refine pp_up ij b4 (v := qc p (2 * j + u)) (fun z => by rw [z]; rfl) (fun z => by rw [z]) (h100 _ ?_)
      refine ⟨ij, nm_r (e' := nI (ct (qp p) (j + 1))) (by rw [pu_bIn, nI_add]; rfl) ⟨ij, ?_⟩⟩
      intro P125 h125
      refine pp_c (hk5 _ (by omega)) (h125 _ ⟨ij, ?_⟩)
      intro P138 h138
      refine pp_c (hk5 _ (by omega)) (h138 _ ?_)
      refine nm_r (e' := nI (ct (fun s => decide (qc p s ≠ 0)) (2 * (j + 1)))) (by rw [nI_add, nI_add, ← Nat.add_assoc]; rfl) ?_
      refine nm_r (e' := nI (ct (qg p) (j + 1))) (by rw [pu_bIn, nI_add]; rfl) ⟨ij, ?_⟩
      intro P165 h165
      refine pp_x (h165 _ ?_)
      refine nm_r (e' := nI (ct (fun j => qp p j ^^ qg p j) (j + 1))) (by rw [nI_add]; rfl) ?_
      refine cl_where p hC j 0 j64 (by omega) rfl rfl c (by rw [hq]; rfl) ?_
      intro P400 h400
      refine br_e rfl ?_
      refine cl_where p hC j 1 j64 (by omega) rfl rfl r (by rw [hq]; rfl) ?_
      refine br_e rfl ?_
      refine cl_where p hC j 2 j64 (by omega) rfl rfl i (by rw [hq]; rfl) ?_
      refine br_e rfl ?_
      refine cl_where p hC j 3 j64 (by omega) rfl rfl u (by rw [hq]; rfl) ?_
      refine br_e rfl ?_
      refine cl_layer p hC c r i b1 b2 b3 rfl rfl rfl (by decide) (fun _ => ?_) (fun q => absurd q (by decide)) (fun q => absurd q (by decide)) (fun q => absurd q (by decide))
      refine br_e (by rw [qe, qe2]) ?_
      refine cl_layer p hC c r i b1 b2 b3 rfl rfl rfl (by decide) (fun q => absurd q (by decide)) (fun _ => ?_) (fun q => absurd q (by decide)) (fun q => absurd q (by decide))
      refine br_e (by rw [qe, qe3]) ?_
      refine cl_layer p hC c r i b1 b2 b3 rfl rfl rfl (by decide) (fun q => absurd q (by decide)) (fun q => absurd q (by decide)) (fun _ => ?_) (fun q => absurd q (by decide))
      refine ⟨ij, br_e (by rw [qe, qe2]) ?_⟩
      refine cl_layer p hC c r i b1 b2 b3 rfl rfl rfl (by decide) (fun q => absurd q (by decide)) (fun q => absurd q (by decide)) (fun q => absurd q (by decide)) (fun _ => ?_)
      refine br_e (by rw [qe]) ?_
      refine cl_colour p hC j 0 j64 (by omega) rfl rfl ?_
      refine ⟨ij, br_e rfl ?_⟩
      refine cl_colour p hC j 1 j64 (by omega) rfl rfl ?_
      refine ⟨ij, br_e rfl ?_⟩
      refine cl_holes p hC (j / 8) (by omega) rfl ?_
      refine ⟨ij, br_e (row_bit j64) ?_⟩
      refine cl_target p hC (j / 8) (by omega) rfl ?_
      refine ⟨vp_in_nI (by omega) (by omega), br_t (ht (j / 8) (by omega)).symm ?_⟩
      rw [pu_i1]
      exact nx
  exact key 64 0 (by omega)
