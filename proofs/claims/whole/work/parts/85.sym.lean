/-! the symmetries -/
def sy4 (a b c d : Bool) : Int32 := (((if a = true then (1 : Int32) else 0) ||| (if b = true then (2 : Int32) else 0)) ||| (if c = true then (4 : Int32) else 0)) ||| (if d = true then (8 : Int32) else 0)
theorem sy4_and (v : Int32) (a b c d : Bool) : (((v &&& (if a = true then (15 : Int32) else 14)) &&& (if b = true then (15 : Int32) else 13)) &&& (if c = true then (15 : Int32) else 11)) &&& (if d = true then (15 : Int32) else 7) = v &&& sy4 a b c d := by
  rw [Int32.and_assoc, Int32.and_assoc, Int32.and_assoc]
  congr 1
  cases a <;> cases b <;> cases c <;> cases d <;> decide
/-- what one cell says -/
def syAt (f : Nat → Bool) (c r : Nat) : Int32 := sy4 (f (8 * r + c) == f (8 * r + (7 - c))) (f (8 * r + c) == f (8 * (7 - r) + c)) (f (8 * r + c) == f (8 * (7 - r) + (7 - c))) (f (8 * r + c) == f (8 * c + r))
def syTo (f : Nat → Bool) : Nat → Int32
  | 0 => 15
  | j + 1 => syTo f j &&& syAt f (j % 8) (j / 8)
theorem syAt_congr {f g : Nat → Bool} (h : ∀ k, k < 64 → f k = g k) {c r : Nat} (hc : c < 8) (hr : r < 8) : syAt f c r = syAt g c r := by
  unfold syAt
  rw [h (8 * r + c) (by omega), h (8 * r + (7 - c)) (by omega), h (8 * (7 - r) + c) (by omega), h (8 * (7 - r) + (7 - c)) (by omega), h (8 * c + r) (by omega)]
theorem syTo_congr {f g : Nat → Bool} (h : ∀ k, k < 64 → f k = g k) : ∀ n, n ≤ 64 → syTo f n = syTo g n
  | 0, _ => rfl
  | n + 1, hn => by
    show syTo f n &&& _ = syTo g n &&& _
    rw [syTo_congr h n (by omega), syAt_congr h (by omega) (by omega)]
theorem bI_eq {a b : Bool} : bI a = bI b ↔ (a == b) = true := by cases a <;> cases b <;> simp [bI]
/-- a choice between two values, the second where the condition fails -/
theorem sy_sel {P : Int32 → Prop} {a b : Bool} {x y : Int32} (h : P (if (a == b) = true then x else y)) : (¬ bI a = bI b → P y) ∧ (bI a = bI b → P x) := by
  refine ⟨fun z => ?_, fun z => ?_⟩
  · rw [if_neg (fun q => z (bI_eq.mpr q))] at h; exact h
  · rw [if_pos (bI_eq.mp z)] at h; exact h
theorem sy_selR {P : Int32 → Prop} {a b : Bool} {x y : Int32} (h : P (if (a == b) = true then x else y)) : (¬ bI b = bI a → P y) ∧ (bI b = bI a → P x) := by
  refine ⟨fun z => ?_, fun z => ?_⟩
  · rw [if_neg (fun q => z (bI_eq.mpr q).symm)] at h; exact h
  · rw [if_pos (bI_eq.mp z.symm)] at h; exact h
theorem pu_symmetriesAt {x : Int64} {post : Int32 → Prop} (j : Nat) (hj : j < 64) (h : post (syAt (ib x) (j % 8) (j / 8))) : wp_X5_symmetriesAt x (nI j) post := by
  refine nm_r (e' := nI (j % 8)) (pk_rem (d := 8) (by omega) (by decide) (by decide)) ?_
  refine nm_r (e' := nI (j / 8)) (pk_div (d := 8) (by omega) (by decide) (by decide)) ?_
  refine nm_r (e' := nI (7 - j % 8)) (pk_sub (a := 7) (by omega)) ?_
  refine nm_r (e' := nI (7 - j / 8)) (pk_sub (a := 7) (by omega)) ?_
  have e0 : 8 * (j / 8) + j % 8 = j := by omega
  unfold syAt at h
  rw [e0] at h
  unfold sy4 at h
  refine pu_hasCell j hj ?_
  rw [show (8 : Int32) * nI (j / 8) = nI (8 * (j / 8)) from pk_mul 8 _, nI_add]
  refine pu_hasCell _ (by omega) ?_
  intro P1 h1
  refine sy_sel (h1 _ ?_)
  rw [show (8 : Int32) * nI (7 - j / 8) = nI (8 * (7 - j / 8)) from pk_mul 8 _, nI_add]
  refine pu_hasCell _ (by omega) ?_
  intro P2 h2
  refine sy_sel (h2 _ (fun w8 e8 => ?_))
  subst e8
  rw [nI_add]
  refine pu_hasCell _ (by omega) ?_
  intro P3 h3
  refine sy_sel (h3 _ (fun w8 e8 => ?_))
  subst e8
  rw [show (8 : Int32) * nI (j % 8) = nI (8 * (j % 8)) from pk_mul 8 _, nI_add]
  refine pu_hasCell _ (by omega) ?_
  intro P4 h4
  exact sy_sel (h4 _ h)
theorem pu_symmetries {x : Int64} {post : Int32 → Prop} (h : post (syTo (ib x) 64)) : wp_X5_symmetries x post := by
  intro P hP
  have key : ∀ d j, j + d = 64 → P (syTo (ib x) j) (nI j) := by
    intro d
    induction d with
    | zero =>
      intro j hj
      have : j = 64 := by omega
      subst this
      exact hP _ _ (br_t (nI_le (b := 64) (a := 64) (Nat.le_refl _) (by omega)) h)
    | succ d ih =>
      intro j hj
      refine hP _ _ (br_f (nI_ge (b := 64) (a := j) (by omega) (by omega)) ?_)
      refine pu_symmetriesAt j (by omega) (fun w e => ?_)
      subst e
      rw [pu_i1]
      exact ih (j + 1) (by omega)
  exact key 64 0 (by omega)
theorem pm_symmetries {zz : Nat → Int32} {post : Int32 → Prop} (p : Pap) (hz : pM zz p) (h : post (syTo (qp p) 64)) : wp_X6_symmetries zz post := by
  intro P hP
  have key : ∀ d r, r + d = 8 → P (syTo (qp p) (8 * r)) (nI r) := by
    intro d
    induction d with
    | zero =>
      intro r hr
      have : r = 8 := by omega
      subst this
      exact hP _ _ (br_t (nI_le (b := 8) (a := 8) (Nat.le_refl _) (by omega)) h)
    | succ d ih =>
      intro r hr
      refine hP _ _ (br_f (nI_ge (b := 8) (a := r) (by omega) (by omega)) ?_)
      intro Q hQ
      have key2 : ∀ e c, c + e = 8 → Q (syTo (qp p) (8 * r + c)) (nI c) := by
        intro e
        induction e with
        | zero =>
          intro c hc
          have : c = 8 := by omega
          subst this
          refine hQ _ _ (br_t (nI_le (b := 8) (a := 8) (Nat.le_refl _) (by omega)) ?_)
          rw [pu_i1]
          exact ih (r + 1) (by omega)
        | succ e ih2 =>
          intro c hc
          refine hQ _ _ (br_f (nI_ge (b := 8) (a := c) (by omega) (by omega)) ?_)
          have s7 : (7 : Int32) - nI c = nI (7 - c) := pk_sub (a := 7) (by omega)
          have s8 : (7 : Int32) - nI r = nI (7 - r) := pk_sub (a := 7) (by omega)
          have nx := ih2 (c + 1) (by omega)
          have e1 : (8 * r + c) % 8 = c := by omega
          have e2 : (8 * r + c) / 8 = r := by omega
          have e3 : syTo (qp p) (8 * r + (c + 1)) = syTo (qp p) (8 * r + c) &&& syAt (qp p) c r := by
            show syTo (qp p) (8 * r + c) &&& syAt (qp p) ((8 * r + c) % 8) ((8 * r + c) / 8) = _
            rw [e1, e2]
          rw [e3] at nx
          unfold syAt at nx
          rw [← sy4_and] at nx
          refine pm_hole p hz c r (by omega) (by omega) ?_
          rw [s7, s8]
          refine pm_hole p hz (7 - c) r (by omega) (by omega) ?_
          intro P1 h1
          refine sy_selR (h1 _ (fun w q => ?_))
          subst q
          refine pm_hole p hz c (7 - r) (by omega) (by omega) ?_
          intro P2 h2
          refine sy_selR (h2 _ (fun w q => ?_))
          subst q
          refine pm_hole p hz (7 - c) (7 - r) (by omega) (by omega) ?_
          intro P3 h3
          refine sy_selR (h3 _ (fun w q => ?_))
          subst q
          refine pm_hole p hz r c (by omega) (by omega) ?_
          intro P4 h4
          refine sy_selR (h4 _ (fun w q => ?_))
          subst q
          rw [pu_i1]
          exact nx
      exact key2 8 0 (by omega)
  exact key 8 0 (by omega)
theorem gop_symmetries : gOp_symmetries gR := by
  intro isSaved npat ngoal ncol nmade nmac nks spat sgoal scol smade smac sks hkept hks hmade hmac hcol hpat hgoal tmade tmac tks wlen wpos wlet wcol wrow wnum chs pastMany isKept typed wid hei toldMany spot wrong zz past kz buf stk laid pcs told hR
  obtain ⟨p, sp, ik, k, hp, tl, tx, hk, hC, hS, ei, ek, hH, hT, hM, hKz, eik, ekm, hPH, eT⟩ := hR
  have hC0 := hC
  obtain ⟨ok, hn, hm, hks_, h5, h6, h7⟩ := hC
  refine pu_symmetries ?_
  refine pm_symmetries p hM ?_
  exact ⟨syTo_congr (fun c hc => h5 c hc) 64 (Nat.le_refl _), ⟨p, sp, ik, k, hp, tl, tx, hk, hC0, hS, ei, ek, hH, hT, hM, hKz, eik, ekm, hPH, eT⟩⟩
