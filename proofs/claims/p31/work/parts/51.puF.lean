/-! the folds: mathematics -/
/-- how many of the first n folds are across -/
def fp_pa (kf : Nat → Nat) : Nat → Nat
  | 0 => 0
  | n + 1 => fp_pa kf n + if kf n < 2 then 1 else 0
def fp_ok (kf : Nat → Nat) (n : Nat) : Prop := (∀ i, i < n → kf i < 4) ∧ fp_pa kf n ≤ 3 ∧ n - fp_pa kf n ≤ 3
def fp_w (kf : Nat → Nat) (n : Nat) : Nat := 8 / 2 ^ fp_pa kf n
def fp_h (kf : Nat → Nat) (n : Nat) : Nat := 8 / 2 ^ (n - fp_pa kf n)
theorem fp_pa_le (kf : Nat → Nat) : ∀ n, fp_pa kf n ≤ n
  | 0 => Nat.le_refl 0
  | n + 1 => by
    have := fp_pa_le kf n
    unfold fp_pa
    split <;> omega
theorem fp_ok_6 {kf : Nat → Nat} {n : Nat} (h : fp_ok kf n) : n ≤ 6 := by
  obtain ⟨_, h1, h2⟩ := h
  omega
theorem fp_ok_p {kf : Nat → Nat} {n : Nat} (h : fp_ok kf (n + 1)) : fp_ok kf n := by
  obtain ⟨h0, h1, h2⟩ := h
  have h3 := fp_pa_le kf n
  unfold fp_pa at h1 h2
  refine ⟨fun i hi => h0 i (by omega), ?_, ?_⟩
  · split at h1 <;> omega
  · split at h2 <;> omega
theorem fp_ok_le {kf : Nat → Nat} {m : Nat} : ∀ n, m ≤ n → fp_ok kf n → fp_ok kf m
  | 0, h, k => by
    have : m = 0 := by omega
    subst this; exact k
  | n + 1, h, k => by
    rcases Nat.lt_or_ge m (n + 1) with z | z
    · exact fp_ok_le n (by omega) (fp_ok_p k)
    · have : m = n + 1 := by omega
      subst this; exact k
theorem fp_w_s {kf : Nat → Nat} {n : Nat} (h : fp_ok kf (n + 1)) : fp_w kf n = if kf n < 2 then 2 * fp_w kf (n + 1) else fp_w kf (n + 1) := by
  obtain ⟨_, h1, _⟩ := h
  unfold fp_w
  rw [show fp_pa kf (n + 1) = fp_pa kf n + if kf n < 2 then 1 else 0 from rfl] at h1 ⊢
  split
  · rename_i z
    rw [if_pos z] at h1
    have : ∀ a, a + 1 ≤ 3 → 8 / 2 ^ a = 2 * (8 / 2 ^ (a + 1)) := by
      intro a ha
      have : a = 0 ∨ a = 1 ∨ a = 2 := by omega
      rcases this with rfl | rfl | rfl <;> rfl
    exact this _ h1
  · rfl
theorem fp_h_s {kf : Nat → Nat} {n : Nat} (h : fp_ok kf (n + 1)) : fp_h kf n = if kf n < 2 then fp_h kf (n + 1) else 2 * fp_h kf (n + 1) := by
  obtain ⟨_, _, h2⟩ := h
  have h3 := fp_pa_le kf n
  unfold fp_h
  rw [show fp_pa kf (n + 1) = fp_pa kf n + if kf n < 2 then 1 else 0 from rfl] at h2 ⊢
  split
  · rename_i z
    rw [show n + 1 - (fp_pa kf n + 1) = n - fp_pa kf n by omega]
  · rename_i z
    rw [if_neg z] at h2
    have : ∀ a, a + 1 ≤ 3 → 8 / 2 ^ a = 2 * (8 / 2 ^ (a + 1)) := by
      intro a ha
      have : a = 0 ∨ a = 1 ∨ a = 2 := by omega
      rcases this with rfl | rfl | rfl <;> rfl
    rw [show n + 1 - (fp_pa kf n + 0) = (n - fp_pa kf n) + 1 by omega] at h2 ⊢
    exact this _ h2
theorem fp_wh (kf : Nat → Nat) (n : Nat) (h : fp_ok kf n) : fp_w kf n * fp_h kf n * 2 ^ n = 64 := by
  obtain ⟨_, h1, h2⟩ := h
  have h3 := fp_pa_le kf n
  unfold fp_w fp_h
  have key : ∀ a, a ≤ 3 → ∀ b, b ≤ 3 → 8 / 2 ^ a * (8 / 2 ^ b) * 2 ^ (a + b) = 64 := by decide
  have := key _ h1 _ h2
  rwa [show fp_pa kf n + (n - fp_pa kf n) = n by omega] at this
theorem fp_w_b (kf : Nat → Nat) (n : Nat) (h : fp_ok kf n) : 1 ≤ fp_w kf n ∧ fp_w kf n ≤ 8 := by
  unfold fp_w
  exact (by decide : ∀ a, a ≤ 3 → 1 ≤ 8 / 2 ^ a ∧ 8 / 2 ^ a ≤ 8) _ h.2.1
theorem fp_h_b (kf : Nat → Nat) (n : Nat) (h : fp_ok kf n) : 1 ≤ fp_h kf n ∧ fp_h kf n ≤ 8 := by
  unfold fp_h
  exact (by decide : ∀ a, a ≤ 3 → 1 ≤ 8 / 2 ^ a ∧ 8 / 2 ^ a ≤ 8) _ h.2.2
theorem fp_L_b {n : Nat} (h : n ≤ 6) : 1 ≤ 2 ^ n ∧ 2 ^ n ≤ 64 := (by decide : ∀ n, n ≤ 6 → 1 ≤ 2 ^ n ∧ 2 ^ n ≤ 64) n h
/-- to turn a layer: the other side is up -/
def fp_tu (x : Nat) : Nat := if x % 2 = 0 then x + 1 else x - 1
/-- ahead of a fold: the place of what lies at a place after it -/
def fp_ah (x half : Nat) (fm mv : Bool) : Nat := if mv then 2 * half - 1 - (if fm then half + x else x) else (if fm then half + x else x)
/-- 2 * cell + side of the layer i of the field (c, r) after n folds -/
def fp_us (kf : Nat → Nat) : Nat → Nat → Nat → Nat → Nat
  | 0, c, r, _ => 2 * (8 * r + c)
  | n + 1, c, r, i =>
    let mv := decide (i < 2 ^ n)
    let fm := decide (kf n % 2 = 0)
    let c' := if kf n < 2 then fp_ah c (fp_w kf (n + 1)) fm mv else c
    let r' := if kf n < 2 then r else fp_ah r (fp_h kf (n + 1)) fm mv
    let x := fp_us kf n c' r' (if mv then 2 ^ n - 1 - i else i - 2 ^ n)
    if mv then fp_tu x else x
theorem fp_ah_lt {x half : Nat} {fm mv : Bool} (h : x < half) : fp_ah x half fm mv < 2 * half := by
  unfold fp_ah
  cases fm <;> cases mv <;> simp <;> omega
theorem fp_us_lt (kf : Nat → Nat) : ∀ n c r i, fp_ok kf n → c < fp_w kf n → r < fp_h kf n → i < 2 ^ n → fp_us kf n c r i < 128
  | 0, c, r, i, h, hc, hr, hi => by
    have h1 : fp_w kf 0 = 8 := by simp [fp_w, fp_pa]
    have h2 : fp_h kf 0 = 8 := by simp [fp_h, fp_pa]
    show 2 * (8 * r + c) < 128
    omega
  | n + 1, c, r, i, h, hc, hr, hi => by
    have ih := fp_us_lt kf n
    have hw := fp_w_s h
    have hh := fp_h_s h
    have h2 : 2 ^ (n + 1) = 2 * 2 ^ n := by rw [Nat.pow_succ]; omega
    have tu : ∀ x, x < 128 → fp_tu x < 128 := by
      intro x hx
      unfold fp_tu
      split <;> omega
    have key : fp_us kf n (if kf n < 2 then fp_ah c (fp_w kf (n + 1)) (decide (kf n % 2 = 0)) (decide (i < 2 ^ n)) else c) (if kf n < 2 then r else fp_ah r (fp_h kf (n + 1)) (decide (kf n % 2 = 0)) (decide (i < 2 ^ n))) (if decide (i < 2 ^ n) = true then 2 ^ n - 1 - i else i - 2 ^ n) < 128 := by
      refine ih _ _ _ (fp_ok_p h) ?_ ?_ ?_
      · rw [hw]
        split
        · exact fp_ah_lt hc
        · exact hc
      · rw [hh]
        split
        · exact hr
        · exact fp_ah_lt hr
      · by_cases z : i < 2 ^ n
        · simp [z]; omega
        · simp [z]; omega
    unfold fp_us
    dsimp only
    by_cases z : i < 2 ^ n
    · simp only [z, decide_true, if_true] at key ⊢
      exact tu _ key
    · simp only [z, decide_false, if_false, Bool.false_eq_true] at key ⊢
      exact key
/-! the class: Folding -/
theorem pu_isAcross {post : Int32 → Prop} (k : Nat) (hk : k < 2 ^ 31) (h : post (bI (decide (k < 2)))) : wp_X0_isAcross (nI k) post := by
  refine pk_le 2 k (fun z => ⟨Or.inl rfl, ?_⟩) (fun z => ⟨Or.inr rfl, ?_⟩)
  · rw [decide_eq_false (by omega)] at h; exact h
  · rw [decide_eq_true z] at h; exact h
theorem pu_movesFirstHalf {post : Int32 → Prop} (k : Nat) (hk : k < 2 ^ 31) (h : post (bI (decide (k % 2 = 0)))) : wp_X0_movesFirstHalf (nI k) post := by
  unfold wp_X0_movesFirstHalf
  rw [show nI k - nI k / (2 : Int32) * (2 : Int32) = nI (k % 2) from pk_rem hk (by decide) (by decide)]
  refine ⟨fun z => ⟨Or.inl rfl, ?_⟩, fun z => ⟨Or.inr rfl, ?_⟩⟩
  · rw [decide_eq_false (fun q => z (by rw [q]; rfl))] at h; exact h
  · rw [decide_eq_true ((nI_eq (a := k % 2) (b := 0) (by omega) (by omega)).mp z)] at h; exact h
theorem pu_columns {mac : Int32} {post : Int32 → Prop} (kf : Nat → Nat) (n : Nat) (ok : fp_ok kf n) (hm : mac = nI (fp_pa kf n)) (h : post (nI (fp_w kf n))) : wp_X0_columns mac post := by
  subst hm
  have e := (by decide +kernel : ∀ a, a ≤ 3 → (8 : Int32) >>> (nI a &&& (31 : Int32)) = nI (8 / 2 ^ a)) _ ok.2.1
  unfold wp_X0_columns
  rw [e]
  exact h
theorem pu_rows {made mac : Int32} {post : Int32 → Prop} (kf : Nat → Nat) (n : Nat) (ok : fp_ok kf n) (hn : made = nI n) (hm : mac = nI (fp_pa kf n)) (h : post (nI (fp_h kf n))) : wp_X0_rows made mac post := by
  subst hm hn
  have e := (by decide +kernel : ∀ a, a ≤ 3 → (8 : Int32) >>> (nI a &&& (31 : Int32)) = nI (8 / 2 ^ a)) _ ok.2.2
  unfold wp_X0_rows
  rw [pk_sub (fp_pa_le kf n), e]
  exact h
theorem pu_layers {made : Int32} {post : Int32 → Prop} (n : Nat) (h6 : n ≤ 6) (hn : made = nI n) (h : post (nI (2 ^ n))) : wp_X0_layers made post := by
  subst hn
  have e := (by decide +kernel : ∀ a, a ≤ 6 → (1 : Int32) <<< (nI a &&& (31 : Int32)) = nI (2 ^ a)) _ h6
  unfold wp_X0_layers
  rw [e]
  exact h
theorem pu_hasFold {made x : Int32} {post : Int32 → Prop} (n : Nat) (h6 : n ≤ 6) (hn : made = nI n) (h0 : (∀ j : Nat, j < n → x ≠ nI j) → post 0) (h1 : ∀ j : Nat, j < n → x = nI j → post 1) : wp_X0_hasFold made x post := by
  subst hn
  intro P hP
  rcases pu_rng x n (by omega) with z | z | ⟨j, hj, rfl⟩
  · exact br_t z (hP ⟨Or.inl rfl, h0 (fun j hj e => by subst e; exact nI_pos (by omega) z)⟩)
  · refine br_f (pu_ng (by omega) z) ?_
    exact br_t z (hP ⟨Or.inl rfl, h0 (fun j hj e => by subst e; exact nI_ge hj (by omega) z)⟩)
  · refine br_f (nI_pos (by omega)) ?_
    exact br_f (nI_ge hj (by omega)) ⟨Or.inr rfl, h1 j hj rfl⟩
theorem pu_kindOf {ks : Nat → Int32} {post : Int32 → Prop} (j : Nat) (hj : j < 6) (h : post (ks j)) : wp_X0_kindOf ks (nI j) post := by
  intro P hP
  refine br_f (nI_pos (by omega)) ?_
  refine pk_le 6 j (fun z => absurd z (by omega)) (fun _ => ⟨vp_in_nI hj (by omega), ?_⟩)
  rw [nI_clamp (by omega)]
  exact h
theorem pu_kindOf_neg {ks : Nat → Int32} {post : Int32 → Prop} (x : Int32) (hx : x < 0) (h : post 0) : wp_X0_kindOf ks x post := by
  intro P hP
  exact br_t hx (hP h)
/-- the field: one, or none -/
theorem pu_hasField {made mac x1 x2 : Int32} {post : Int32 → Prop} (kf : Nat → Nat) (n : Nat) (ok : fp_ok kf n) (hn : made = nI n) (hm : mac = nI (fp_pa kf n))
    (h0 : (∀ c r : Nat, c < fp_w kf n → r < fp_h kf n → ¬ (x1 = nI c ∧ x2 = nI r)) → post 0) (h1 : ∀ c r : Nat, c < fp_w kf n → r < fp_h kf n → x1 = nI c → x2 = nI r → post 1) : wp_X0_hasField made mac x1 x2 post := by
  intro P hP
  have hw := fp_w_b kf n ok
  have hh := fp_h_b kf n ok
  rcases pu_rng x1 (fp_w kf n) (by omega) with z | z | ⟨c, hc, rfl⟩
  · exact br_t z (hP ⟨Or.inl rfl, h0 (fun c r hc hr e => by obtain ⟨rfl, _⟩ := e; exact nI_pos (by omega) z)⟩)
  · refine br_f (pu_ng (by omega) z) (pu_columns kf n ok hm ?_)
    exact br_t z (hP ⟨Or.inl rfl, h0 (fun c r hc hr e => by obtain ⟨rfl, _⟩ := e; exact nI_ge hc (by omega) z)⟩)
  · refine br_f (nI_pos (by omega)) (pu_columns kf n ok hm ?_)
    refine br_f (nI_ge hc (by omega)) ?_
    rcases pu_rng x2 (fp_h kf n) (by omega) with z | z | ⟨r, hr, rfl⟩
    · exact br_t z (hP ⟨Or.inl rfl, h0 (fun c r hc hr e => by obtain ⟨_, rfl⟩ := e; exact nI_pos (by omega) z)⟩)
    · refine br_f (pu_ng (by omega) z) (pu_rows kf n ok hn hm ?_)
      exact br_t z (hP ⟨Or.inl rfl, h0 (fun c r hc hr e => by obtain ⟨_, rfl⟩ := e; exact nI_ge hr (by omega) z)⟩)
    · refine br_f (nI_pos (by omega)) (pu_rows kf n ok hn hm ?_)
      exact br_f (nI_ge hr (by omega)) ⟨Or.inr rfl, h1 c r hc hr rfl rfl⟩
theorem pu_hasLayer {made mac x1 x2 x3 : Int32} {post : Int32 → Prop} (kf : Nat → Nat) (n : Nat) (ok : fp_ok kf n) (hn : made = nI n) (hm : mac = nI (fp_pa kf n))
    (h0 : (∀ c r i : Nat, c < fp_w kf n → r < fp_h kf n → i < 2 ^ n → ¬ (x1 = nI c ∧ x2 = nI r ∧ x3 = nI i)) → post 0) (h1 : ∀ c r i : Nat, c < fp_w kf n → r < fp_h kf n → i < 2 ^ n → x1 = nI c → x2 = nI r → x3 = nI i → post 1) : wp_X0_hasLayer made mac x1 x2 x3 post := by
  have hL := fp_L_b (fp_ok_6 ok)
  refine pu_hasField kf n ok hn hm (fun z => ?_) (fun c r hc hr e1 e2 => ?_)
  · intro P hP
    exact br_t rfl (hP ⟨Or.inl rfl, h0 (fun c r i hc hr _ e => z c r hc hr ⟨e.1, e.2.1⟩)⟩)
  · intro P hP
    refine br_f (by decide) ?_
    have hw := fp_w_b kf n ok
    have hh := fp_h_b kf n ok
    rcases pu_rng x3 (2 ^ n) (by omega) with z | z | ⟨i, hi, rfl⟩
    · exact br_t z (hP ⟨Or.inl rfl, h0 (fun c r i hc hr hi e => by obtain ⟨_, _, rfl⟩ := e; exact nI_pos (by omega) z)⟩)
    · refine br_f (pu_ng (by omega) z) (pu_layers n (fp_ok_6 ok) hn ?_)
      exact br_t z (hP ⟨Or.inl rfl, h0 (fun c r i hc hr hi e => by obtain ⟨_, _, rfl⟩ := e; exact nI_ge hi (by omega) z)⟩)
    · refine br_f (nI_pos (by omega)) (pu_layers n (fp_ok_6 ok) hn ?_)
      exact br_f (nI_ge hi (by omega)) ⟨Or.inr rfl, h1 c r i hc hr hi e1 e2 rfl⟩
theorem pu_placeAhead {post : Int32 → Prop} (x half : Nat) (fm mv : Bool) (hx : x < half) (hh : half ≤ 8) (h : post (nI (fp_ah x half fm mv))) : wp_X0_placeAhead (nI x) (nI half) (bI fm) (bI mv) post := by
  intro P hP
  refine pu_sel (hP _ (pu_sel ?_))
  rw [show nI half + nI x = nI (half + x) from nI_add _ _, pu_ite]
  rw [show (2 : Int32) * nI half = nI (2 * half) from pk_mul 2 half, show nI (2 * half) - (1 : Int32) = nI (2 * half - 1) from pk_sub (b := 1) (by omega)]
  rw [pk_sub (a := 2 * half - 1) (b := if fm = true then half + x else x) (by split <;> omega), pu_ite]
  exact h
theorem fp_ah_b {x half : Nat} {fm mv : Bool} (h : x < half) (h8 : half ≤ 8) : fp_ah x half fm mv < 16 := by have := fp_ah_lt (fm := fm) (mv := mv) h; omega
/-- the walk back through the folds -/
theorem pu_upperSide {made mac : Int32} {ks : Nat → Int32} {post : Int32 → Prop} (kf : Nat → Nat) (n : Nat) (ok : fp_ok kf n) (hn : made = nI n) (hm : mac = nI (fp_pa kf n)) (hk : ∀ i, i < n → ks i = nI (kf i)) (c r i : Nat) (hc : c < fp_w kf n) (hr : r < fp_h kf n) (hi : i < 2 ^ n)
    (h : post (nI (fp_us kf n c r i))) : wp_X0_upperSide made mac ks (nI c) (nI r) (nI i) post := by
  refine pu_columns kf n ok hm (pu_rows kf n ok hn hm (pu_layers n (fp_ok_6 ok) hn ?_))
  intro w11 hw11 P hP
  subst hw11 hn
  have key : ∀ j, j ≤ n → ∀ c r i up, c < fp_w kf j → r < fp_h kf j → i < 2 ^ j → up ≤ 1 → post (nI (if up = 1 then fp_tu (fp_us kf j c r i) else fp_us kf j c r i)) → P (nI c) (nI r) (nI i) (nI up) (nI (fp_w kf j)) (nI (fp_h kf j)) (nI (2 ^ j)) (nI j - (1 : Int32)) := by
    intro j
    induction j with
    | zero =>
      intro _ c r i up hc hr hi hu h
      apply hP
      refine br_t (by decide) ?_
      have e : (2 : Int32) * ((8 : Int32) * nI r + nI c) + nI up = nI (2 * (8 * r + c) + up) := by
        rw [show (8 : Int32) * nI r = nI (8 * r) from pk_mul 8 r, nI_add, show (2 : Int32) * nI (8 * r + c) = nI (2 * (8 * r + c)) from pk_mul 2 _, nI_add]
      rw [e]
      have e2 : 2 * (8 * r + c) + up = if up = 1 then fp_tu (fp_us kf 0 c r i) else fp_us kf 0 c r i := by
        unfold fp_us fp_tu
        split
        · rw [if_pos (by omega)]; omega
        · omega
      rw [e2]
      exact h
    | succ j ih =>
      intro hj c r i up hc hr hi hu h
      have okj := fp_ok_le n hj ok
      have hj6 := fp_ok_6 okj
      have hwb := fp_w_b kf _ okj
      have hhb := fp_h_b kf _ okj
      have hLb := fp_L_b hj6
      have hk4 := okj.1 j (by omega)
      have h2 : 2 ^ (j + 1) = 2 * 2 ^ j := by rw [Nat.pow_succ]; omega
      have hLj := fp_L_b (show j ≤ 6 by omega)
      apply hP
      rw [show nI (j + 1) - (1 : Int32) = nI j from nI_pred j]
      refine br_f (nI_pos (by omega)) ?_
      refine pu_kindOf j (by omega) ?_
      rw [hk j (by omega)]
      refine pu_movesFirstHalf (kf j) (by omega) ?_
      refine nm_r (e' := nI (2 ^ j)) ?_ ?_
      · rw [show nI (2 ^ (j + 1)) / (2 : Int32) = nI (2 ^ (j + 1) / 2) from pk_div (d := 2) (by omega) (by decide) (by decide), h2, Nat.mul_div_cancel_left _ (by decide)]
      intro P76 hP76
      have mvq : P76 (bI (decide (i < 2 ^ j))) → (nI (2 ^ j) ≤ nI i → P76 (0 : Int32)) ∧ (¬ nI (2 ^ j) ≤ nI i → P76 (1 : Int32)) := by
        intro q
        refine pk_le (2 ^ j) i (fun z => ?_) (fun z => ?_)
        · rw [decide_eq_false (by omega)] at q; exact q
        · rw [decide_eq_true z] at q; exact q
      refine mvq (hP76 _ ?_)
      generalize hmv : decide (i < 2 ^ j) = mv
      generalize hfm : decide (kf j % 2 = 0) = fm
      refine pu_isAcross (kf j) (by omega) ?_
      intro P127 hP127
      have fin : ∀ c' r', c' < fp_w kf j → r' < fp_h kf j → (c' = if kf j < 2 then fp_ah c (fp_w kf (j + 1)) fm mv else c) → (r' = if kf j < 2 then r else fp_ah r (fp_h kf (j + 1)) fm mv) → P127 (nI c') (nI r') (nI (fp_w kf j)) (nI (fp_h kf j)) := by
        intro c' r' hc' hr' ec er
        apply hP127
        intro P147 hP147
        refine pu_sel (hP147 _ ?_)
        intro P163 hP163
        refine pu_sel (hP163 _ ?_)
        rw [show nI j + (-1 : Int32) = nI j - (1 : Int32) from (Int32.sub_eq_add_neg _ _).symm]
        have ei : (if mv = true then nI (2 ^ j) - (1 : Int32) - nI i else nI i - nI (2 ^ j)) = nI (if mv = true then 2 ^ j - 1 - i else i - 2 ^ j) := by
          rw [← pu_ite]
          by_cases z : i < 2 ^ j
          · rw [decide_eq_true z] at hmv
            subst hmv
            rw [if_pos rfl, if_pos rfl, show nI (2 ^ j) - (1 : Int32) = nI (2 ^ j - 1) from pk_sub (b := 1) (by omega), pk_sub (by omega)]
          · rw [decide_eq_false z] at hmv
            subst hmv
            rw [if_neg (by decide), if_neg (by decide), pk_sub (by omega)]
        have eu : (if mv = true then (1 : Int32) - nI up else nI up) = nI (if mv = true then 1 - up else up) := by
          rw [← pu_ite]
          split
          · exact pk_sub (a := 1) hu
          · rfl
        rw [ei, eu]
        refine ih (by omega) c' r' _ _ hc' hr' ?_ ?_ ?_
        · by_cases z : i < 2 ^ j
          · rw [decide_eq_true z] at hmv; subst hmv
            rw [if_pos rfl]; omega
          · rw [decide_eq_false z] at hmv; subst hmv
            rw [if_neg (by decide)]; omega
        · split <;> omega
        · have us : fp_us kf (j + 1) c r i = if mv = true then fp_tu (fp_us kf j c' r' (if mv = true then 2 ^ j - 1 - i else i - 2 ^ j)) else fp_us kf j c' r' (if mv = true then 2 ^ j - 1 - i else i - 2 ^ j) := by
            rw [ec, er]
            subst hmv hfm
            rfl
          rw [us] at h
          have tt : ∀ x, fp_tu (fp_tu x) = x := by
            intro x
            unfold fp_tu
            split
            · rw [if_neg (by omega)]; omega
            · rw [if_pos (by omega)]; omega
          have : up = 0 ∨ up = 1 := by omega
          rcases this with rfl | rfl
          · cases mv
            · simpa using h
            · simpa using h
          · cases mv
            · simpa using h
            · simpa [tt] using h
      have hws := fp_w_s okj
      have hhs := fp_h_s okj
      refine pu_br (fun z => ?_) (fun z => ?_)
      · have zz : ¬ kf j < 2 := of_decide_eq_false z
        rw [if_neg zz] at hws hhs
        refine pu_placeAhead r _ fm mv hr (by omega) ?_
        refine nm_r (e' := nI (fp_h kf j)) (by rw [hhs]; exact pk_mul 2 _) ?_
        rw [← hws]
        exact fin _ _ (by rw [hws]; exact hc) (by rw [hhs]; exact fp_ah_lt hr) (by rw [if_neg zz]) (by rw [if_neg zz])
      · have zz : kf j < 2 := of_decide_eq_true z
        rw [if_pos zz] at hws hhs
        refine pu_placeAhead c _ fm mv hc (by omega) ?_
        refine nm_r (e' := nI (fp_w kf j)) (by rw [hws]; exact pk_mul 2 _) ?_
        rw [← hhs]
        exact fin _ _ (by rw [hws]; exact fp_ah_lt hc) (by rw [hhs]; exact hr) (by rw [if_pos zz]) (by rw [if_pos zz])
  exact key n (Nat.le_refl n) c r i 0 hc hr hi (by omega) (by simpa using h)
