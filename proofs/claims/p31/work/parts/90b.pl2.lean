/-! where a cell is, in the law -/
theorem wh_x {mv : Bool} {V : Prop} (hV : V) {P : Int32 → Prop} {a b f : Int32} (k : Nat) (hk : k < 4) (hf : f = nI k) (h : P (if mv = true ∧ k < 2 then b else a)) : ∀ R : Prop, (P a → R) → (bI mv = 0 → R) ∧ (¬ bI mv = 0 → V ∧ (((2 : Int32) ≤ f → R) ∧ (¬ (2 : Int32) ≤ f → P b))) := by
  subst hf
  intro R hR
  cases mv
  · rw [if_neg (fun q => absurd q.1 (by decide))] at h
    exact ⟨fun _ => hR h, fun z => absurd rfl z⟩
  · refine ⟨fun z => absurd z (by decide), fun _ => ⟨hV, pk_le 2 k (fun z => hR ?_) (fun z => ?_)⟩⟩
    · rw [if_neg (fun q => absurd q.2 (by omega))] at h
      exact h
    · rw [if_pos ⟨rfl, z⟩] at h
      exact h
theorem wh_y {mv : Bool} {V : Prop} (hV : V) {P : Int32 → Prop} {a b f : Int32} (k : Nat) (hk : k < 4) (hf : f = nI k) (h : P (if mv = true ∧ ¬ k < 2 then b else a)) : ∀ R : Prop, (P a → R) → (bI mv = 0 → R) ∧ (¬ bI mv = 0 → V ∧ ((f ≤ (1 : Int32) → R) ∧ (¬ f ≤ (1 : Int32) → P b))) := by
  subst hf
  intro R hR
  cases mv
  · rw [if_neg (fun q => absurd q.1 (by decide))] at h
    exact ⟨fun _ => hR h, fun z => absurd rfl z⟩
  · refine ⟨fun z => absurd z (by decide), fun _ => ⟨hV, pk_le k 1 (fun z => hR ?_) (fun z => ?_)⟩⟩
    · rw [if_neg (fun q => absurd q.2 (by omega))] at h
      exact h
    · rw [if_pos ⟨rfl, by omega⟩] at h
      exact h
theorem wh_c {V : Prop} (hV : V) {P : Int32 → Prop} {f w' h' : Int32} (k w h c r : Nat) (hk : k < 4) (hf : f = nI k) (hw : w' = nI (w / 2)) (hh : h' = nI (h / 2)) (b1 : w ≤ 8) (b2 : h ≤ 8) (b3 : c < 8) (b4 : r < 8) (hq : P (bI (whm k w h c r))) :
    ((¬ f = 0) → V ∧ (((¬ f = (1 : Int32)) → V ∧ (((¬ f = (2 : Int32)) → ((nI r < h') → P (0 : Int32)) ∧ ((¬ nI r < h') → P (1 : Int32))) ∧ ((f = (2 : Int32)) → ((h' ≤ nI r) → P (0 : Int32)) ∧ ((¬ h' ≤ nI r) → P (1 : Int32))))) ∧ ((f = (1 : Int32)) → ((nI c < w') → P (0 : Int32)) ∧ ((¬ nI c < w') → P (1 : Int32))))) ∧ ((f = 0) → ((w' ≤ nI c) → P (0 : Int32)) ∧ ((¬ w' ≤ nI c) → P (1 : Int32))) := by
  subst hf hw hh
  have hk4 : k = 0 ∨ k = 1 ∨ k = 2 ∨ k = 3 := by omega
  unfold whm at hq
  rcases hk4 with rfl | rfl | rfl | rfl
  · rw [if_pos rfl] at hq
    refine br_e rfl (pk_le (w / 2) c (fun z => ?_) (fun z => ?_))
    · rw [decide_eq_false (by omega)] at hq; exact hq
    · rw [decide_eq_true z] at hq; exact hq
  · rw [if_neg (by decide), if_pos rfl] at hq
    refine br_n (by decide) ⟨hV, br_e rfl (pk_lt c (w / 2) (fun z => ?_) (fun z => ?_))⟩
    · rw [decide_eq_false (by omega)] at hq; exact hq
    · rw [decide_eq_true z] at hq; exact hq
  · rw [if_neg (by decide), if_neg (by decide), if_pos rfl] at hq
    refine br_n (by decide) ⟨hV, br_n (by decide) ⟨hV, br_e rfl (pk_le (h / 2) r (fun z => ?_) (fun z => ?_))⟩⟩
    · rw [decide_eq_false (by omega)] at hq; exact hq
    · rw [decide_eq_true z] at hq; exact hq
  · rw [if_neg (by decide), if_neg (by decide), if_neg (by decide)] at hq
    refine br_n (by decide) ⟨hV, br_n (by decide) ⟨hV, br_n (by decide) (pk_lt r (h / 2) (fun z => ?_) (fun z => ?_))⟩⟩
    · rw [decide_eq_false (by omega)] at hq; exact hq
    · rw [decide_eq_true z] at hq; exact hq
theorem wh_ec {k w c : Nat} {mv : Bool} (hw : w ≤ 8) (hc : c < w) (hA : k = 0 → w / 2 ≤ if mv = true ∧ k < 2 then w - 1 - c else c) :
    (if k = 0 then (if mv = true ∧ k < 2 then nI w - (1 : Int32) - nI c else nI c) - nI (w / 2) else (if mv = true ∧ k < 2 then nI w - (1 : Int32) - nI c else nI c)) = nI (whc k w c mv) := by
  have e : (if mv = true ∧ k < 2 then nI w - (1 : Int32) - nI c else nI c) = nI (if mv = true ∧ k < 2 then w - 1 - c else c) := by
    rw [← pu_ite, show nI w - (1 : Int32) = nI (w - 1) from pk_sub (b := 1) (by omega), pk_sub (by omega)]
  unfold whc
  rw [e]
  by_cases z : k = 0
  · rw [if_pos z, if_pos z]
    exact pk_sub (hA z)
  · rw [if_neg z, if_neg z]
theorem wh_er {k h r : Nat} {mv : Bool} (hh : h ≤ 8) (hr : r < h) (hA : k = 2 → h / 2 ≤ if mv = true ∧ ¬ k < 2 then h - 1 - r else r) :
    (if k = 2 then (if mv = true ∧ ¬ k < 2 then nI h - (1 : Int32) - nI r else nI r) - nI (h / 2) else (if mv = true ∧ ¬ k < 2 then nI h - (1 : Int32) - nI r else nI r)) = nI (whr k h r mv) := by
  have e : (if mv = true ∧ ¬ k < 2 then nI h - (1 : Int32) - nI r else nI r) = nI (if mv = true ∧ ¬ k < 2 then h - 1 - r else r) := by
    rw [← pu_ite, show nI h - (1 : Int32) = nI (h - 1) from pk_sub (b := 1) (by omega), pk_sub (by omega)]
  unfold whr
  rw [e]
  by_cases z : k = 2
  · rw [if_pos z, if_pos z]
    exact pk_sub (hA z)
  · rw [if_neg z, if_neg z]
theorem wh_A {k w h c r : Nat} {mv : Bool} (hmv : whm k w h c r = mv) (hc : c < w) (z : k = 0) : w / 2 ≤ if mv = true ∧ k < 2 then w - 1 - c else c := by
  subst z
  unfold whm at hmv
  rw [if_pos rfl] at hmv
  by_cases y : c < w / 2
  · rw [decide_eq_true y] at hmv
    rw [← hmv, if_pos ⟨rfl, by decide⟩]
    omega
  · rw [decide_eq_false y] at hmv
    rw [← hmv, if_neg (fun q => absurd q.1 (by decide))]
    omega
theorem wh_B {k w h c r : Nat} {mv : Bool} (hmv : whm k w h c r = mv) (hr : r < h) (z : k = 2) : h / 2 ≤ if mv = true ∧ ¬ k < 2 then h - 1 - r else r := by
  subst z
  unfold whm at hmv
  rw [if_neg (by decide), if_neg (by decide), if_pos rfl] at hmv
  by_cases y : r < h / 2
  · rw [decide_eq_true y] at hmv
    rw [← hmv, if_pos ⟨rfl, by decide⟩]
    omega
  · rw [decide_eq_false y] at hmv
    rw [← hmv, if_neg (fun q => absurd q.1 (by decide))]
    omega
set_option maxHeartbeats 1000000 in
theorem pl_where {vf : Nat → Int32} {x : Int32} {post : Int32 → Prop} (kf : Nat → Nat) (n : Nat) (ok : fp_ok kf n) (hf : fR vf kf n) (y : Nat) (hy : y < 64) (hx : x = nI y)
    (h : post (nI ((fp_pl kf n y).1 + 8 * (fp_pl kf n y).2.1 + 64 * (fp_pl kf n y).2.2.1 + 4096 * (fp_pl kf n y).2.2.2))) : wp_L_where vf x post := by
  subst hx
  have n6 := fp_ok_6 ok
  refine nm_r (e' := nI (y % 8)) (pk_rem (d := 8) (by omega) (by decide) (by decide)) ?_
  refine nm_r (e' := nI (y / 8)) (pk_div (d := 8) (by omega) (by decide) (by decide)) ?_
  intro P hP
  have key : ∀ d j, j + d = n → P (nI (fp_pl kf j y).1) (nI (fp_pl kf j y).2.1) (nI (fp_pl kf j y).2.2.1) (nI (fp_pl kf j y).2.2.2) (nI j) := by
    intro d
    induction d with
    | zero =>
      intro j hj
      have : j = n := by omega
      subst this
      refine hP _ _ _ _ _ ⟨in_6, ?_⟩
      rw [cl_6, hf.1]
      refine br_t (nI_le (Nat.le_refl _) (by omega)) ?_
      rw [show (8 : Int32) * nI (fp_pl kf j y).2.1 = nI (8 * (fp_pl kf j y).2.1) from pk_mul 8 _, show (64 : Int32) * nI (fp_pl kf j y).2.2.1 = nI (64 * (fp_pl kf j y).2.2.1) from pk_mul 64 _, show (4096 : Int32) * nI (fp_pl kf j y).2.2.2 = nI (4096 * (fp_pl kf j y).2.2.2) from pk_mul 4096 _, nI_add, nI_add, nI_add]
      exact h
    | succ d ih =>
      intro j hj
      have ok1 := fp_ok_le n (show j + 1 ≤ n by omega) ok
      have okj := fp_ok_p ok1
      have hb := fp_pl_b kf j y okj hy
      have wb := fp_w_b kf _ okj
      have hhb := fp_h_b kf _ okj
      have k4 := ok.1 j (by omega)
      have lb := fp_L_b (show j ≤ 6 by omega)
      have nx := ih (j + 1) (by omega)
      obtain ⟨q, hq⟩ : ∃ q, fp_pl kf j y = q := ⟨_, rfl⟩
      obtain ⟨c, r, i, u⟩ := q
      obtain ⟨mv, hmv⟩ : ∃ mv, whm (kf j) (fp_w kf j) (fp_h kf j) c r = mv := ⟨_, rfl⟩
      rw [wh_pl kf j y ok1 hy c r i u hq mv hmv] at nx
      rw [hq] at hb ⊢
      obtain ⟨b1, b2, b3, b4⟩ := hb
      dsimp only at b1 b2 b3 b4 nx ⊢
      have hV : vp_in (nI j) 7 := vp_in_nI (by omega) (by omega)
      refine hP _ _ _ _ _ ⟨in_6, ?_⟩
      rw [cl_6, hf.1]
      refine br_f (nI_ge (by omega) (by omega)) ?_
      refine pl_wide kf n j (by omega) ok hf rfl ?_
      refine pl_high kf n j (by omega) ok hf rfl ?_
      obtain ⟨e0, e1⟩ := nI_64 (fp_wh kf j okj)
      refine ⟨e0, nm_r e1 ⟨hV, ?_⟩⟩
      rw [nI_clamp (by omega), hf.2 j (by omega)]
      have ew : nI (fp_w kf j) / (2 : Int32) = nI (fp_w kf j / 2) := pk_div (d := 2) (by omega) (by decide) (by decide)
      have eh : nI (fp_h kf j) / (2 : Int32) = nI (fp_h kf j / 2) := pk_div (d := 2) (by omega) (by decide) (by decide)
      rw [ew, eh]
      intro P138 h138
      refine wh_c hV (kf j) (fp_w kf j) (fp_h kf j) c r k4 rfl rfl rfl wb.2 hhb.2 (by omega) (by omega) (h138 _ ?_)
      rw [hmv]
      intro P160 h160
      refine pu_sel (h160 _ ?_)
      intro P176 h176
      refine pu_sel (h176 _ ?_)
      intro P201 h201
      refine wh_x hV (kf j) k4 rfl (h201 _ ?_)
      intro P225 h225
      refine wh_y hV (kf j) k4 rfl (h225 _ ⟨hV, ?_⟩)
      intro P243 h243
      refine pm_sel1 (k := kf j) (j := 0) (by omega) (by omega) (h243 _ ⟨hV, ?_⟩)
      intro P262 h262
      refine pm_sel1 (k := kf j) (j := 2) (by omega) (by omega) (h262 _ ?_)
      have ei : (if mv = true then nI (2 ^ j) - (1 : Int32) - nI i else nI (2 ^ j) + nI i) = nI (if mv = true then 2 ^ j - 1 - i else 2 ^ j + i) := by
        rw [← pu_ite, show nI (2 ^ j) - (1 : Int32) = nI (2 ^ j - 1) from pk_sub (b := 1) (by omega), pk_sub (by omega), nI_add]
      have eu : (if mv = true then (1 : Int32) - nI u else nI u) = nI (if mv = true then 1 - u else u) := by
        rw [← pu_ite]
        split
        · exact pk_sub (a := 1) b4
        · rfl
      rw [wh_ec wb.2 b1 (wh_A hmv b1), wh_er hhb.2 b2 (wh_B hmv b2), ei, eu, pu_i1]
      exact nx
  have k0 := key n 0 (by omega)
  exact k0
/-- a cell's number where it lies: column, row, layer, side in one -/
theorem wh_v {c r i u : Nat} (hc : c < 8) (hr : r < 8) (hi : i < 64) (hu : u ≤ 1) :
    (c + 8 * r + 64 * i + 4096 * u) / 4096 = u ∧ (c + 8 * r + 64 * i + 4096 * u) % 4096 = c + 8 * r + 64 * i ∧ (c + 8 * r + 64 * i + 4096 * u) % 8 = c ∧ (c + 8 * r + 64 * i + 4096 * u) % 64 = c + 8 * r ∧ (c + 8 * r) / 8 = r ∧ (c + 8 * r + 64 * i) / 64 = i ∧ c + 8 * r + 64 * i + 4096 * u < 8192 := by
  refine ⟨?_, ?_, ?_, ?_, ?_, ?_, ?_⟩ <;> omega
