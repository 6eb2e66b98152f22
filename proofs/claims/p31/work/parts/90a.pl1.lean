/-! the law's own methods: numbers, and where a cell is -/
theorem br_e {c A B : Prop} (h : c) (k : B) : (¬ c → A) ∧ (c → B) := ⟨fun q => absurd h q, fun _ => k⟩
theorem br_n {c A B : Prop} (h : ¬ c) (k : A) : (¬ c → A) ∧ (c → B) := ⟨fun _ => k, fun q => absurd q h⟩
theorem cl_6 : ((6 : Int32)).toNatClampNeg = 6 := rfl
theorem in_6 : vp_in (6 : Int32) 7 := vp_in_nI (n := 6) (by omega) (by omega)
theorem pl_low {x y : Int32} {post : Int32 → Prop} (n : Nat) (h0 : 0 < n) (hn : n < 2 ^ 31) (hy : y = nI n) (h : ∀ j, j < n → post (nI j)) : wp_L_low x y post := by
  subst hy
  refine ⟨nI_ne0 h0 hn, ?_⟩
  obtain ⟨a, ha, e⟩ := pk_andE x (m := 2147483647) 31 (by decide)
  rw [e, pk_rem ha h0 hn]
  exact h _ (Nat.mod_lt _ h0)
/-- the row of folds: how many, and which -/
def fR (vf : Nat → Int32) (kf : Nat → Nat) (n : Nat) : Prop := vf 6 = nI n ∧ ∀ i, i < n → vf i = nI (kf i)
theorem pl_wide {vf : Nat → Int32} {x : Int32} {post : Int32 → Prop} (kf : Nat → Nat) (n m : Nat) (hm : m ≤ n) (ok : fp_ok kf n) (hf : fR vf kf n) (hx : x = nI m) (h : post (nI (fp_w kf m))) : wp_L_wide vf x post := by
  subst hx
  have n6 := fp_ok_6 ok
  intro P hP
  have key : ∀ d j, j + d = m → P (nI (fp_w kf j)) (nI j) := by
    intro d
    induction d with
    | zero =>
      intro j hj
      have : j = m := by omega
      subst this
      exact hP _ _ (br_t (nI_le (Nat.le_refl _) (by omega)) h)
    | succ d ih =>
      intro j hj
      have okj := fp_ok_le n (show j + 1 ≤ n by omega) ok
      have hw := fp_w_s okj
      have wb := fp_w_b kf _ okj
      have k4 := ok.1 j (by omega)
      have nx := ih (j + 1) (by omega)
      refine hP _ _ (br_f (nI_ge (by omega) (by omega)) ⟨vp_in_nI (by omega) (by omega), ?_⟩)
      rw [nI_clamp (by omega), hf.2 j (by omega)]
      intro Q hQ
      refine pk_le 2 (kf j) (fun z => hQ _ ?_) (fun z => hQ _ ?_)
      · rw [if_neg (by omega)] at hw
        rw [pu_i1, hw]
        exact nx
      · rw [if_pos z] at hw
        rw [pu_i1, hw, show nI (2 * fp_w kf (j + 1)) / (2 : Int32) = nI (2 * fp_w kf (j + 1) / 2) from pk_div (d := 2) (by omega) (by decide) (by decide), Nat.mul_div_cancel_left _ (by decide)]
        exact nx
  have k0 := key m 0 (by omega)
  rw [show fp_w kf 0 = 8 by simp [fp_w, fp_pa]] at k0
  exact k0
theorem pl_high {vf : Nat → Int32} {x : Int32} {post : Int32 → Prop} (kf : Nat → Nat) (n m : Nat) (hm : m ≤ n) (ok : fp_ok kf n) (hf : fR vf kf n) (hx : x = nI m) (h : post (nI (fp_h kf m))) : wp_L_high vf x post := by
  subst hx
  have n6 := fp_ok_6 ok
  intro P hP
  have key : ∀ d j, j + d = m → P (nI (fp_h kf j)) (nI j) := by
    intro d
    induction d with
    | zero =>
      intro j hj
      have : j = m := by omega
      subst this
      exact hP _ _ (br_t (nI_le (Nat.le_refl _) (by omega)) h)
    | succ d ih =>
      intro j hj
      have okj := fp_ok_le n (show j + 1 ≤ n by omega) ok
      have hh := fp_h_s okj
      have hb := fp_h_b kf _ okj
      have k4 := ok.1 j (by omega)
      have nx := ih (j + 1) (by omega)
      refine hP _ _ (br_f (nI_ge (by omega) (by omega)) ⟨vp_in_nI (by omega) (by omega), ?_⟩)
      rw [nI_clamp (by omega), hf.2 j (by omega)]
      intro Q hQ
      refine pk_le 2 (kf j) (fun z => hQ _ ?_) (fun z => hQ _ ?_)
      · rw [if_neg (by omega)] at hh
        rw [pu_i1, hh, show nI (2 * fp_h kf (j + 1)) / (2 : Int32) = nI (2 * fp_h kf (j + 1) / 2) from pk_div (d := 2) (by omega) (by decide) (by decide), Nat.mul_div_cancel_left _ (by decide)]
        exact nx
      · rw [if_pos z] at hh
        rw [pu_i1, hh]
        exact nx
  have k0 := key m 0 (by omega)
  rw [show fp_h kf 0 = 8 by simp [fp_h, fp_pa]] at k0
  exact k0
theorem q64 {q L : Nat} (h : q * L = 64) : 0 < q ∧ q ≤ 64 ∧ 64 / q = L := by
  have h0 : q ≠ 0 := by
    intro z
    rw [z, Nat.zero_mul] at h
    omega
  exact ⟨by omega, Nat.le_of_dvd (by decide) ⟨L, h.symm⟩, Nat.div_eq_of_eq_mul_right (by omega) h.symm⟩
theorem nI_64 {w h L : Nat} (e : w * h * L = 64) : ¬ nI w * nI h = 0 ∧ (64 : Int32) / (nI w * nI h) = nI L := by
  rw [show nI w * nI h = nI (w * h) from pk_mul _ _]
  obtain ⟨a, b, c⟩ := q64 e
  refine ⟨nI_ne0 a (by omega), ?_⟩
  rw [show (64 : Int32) / nI (w * h) = nI (64 / (w * h)) from pk_div (a := 64) (by omega) a (by omega), c]
theorem pl_layers {vf : Nat → Int32} {post : Int32 → Prop} (kf : Nat → Nat) (n : Nat) (ok : fp_ok kf n) (hf : fR vf kf n) (h : post (nI (2 ^ n))) : wp_L_layers vf post := by
  refine ⟨in_6, ?_⟩
  rw [cl_6]
  refine pl_wide kf n n (Nat.le_refl _) ok hf hf.1 ⟨in_6, ?_⟩
  refine pl_high kf n n (Nat.le_refl _) ok hf hf.1 ?_
  obtain ⟨a, b⟩ := nI_64 (fp_wh kf n ok)
  refine ⟨a, ?_⟩
  rw [b]
  exact h
def whm (k w h c r : Nat) : Bool := if k = 0 then decide (c < w / 2) else if k = 1 then decide (w / 2 ≤ c) else if k = 2 then decide (r < h / 2) else decide (h / 2 ≤ r)
def whc (k w c : Nat) (mv : Bool) : Nat := if k = 0 then (if mv = true ∧ k < 2 then w - 1 - c else c) - w / 2 else (if mv = true ∧ k < 2 then w - 1 - c else c)
def whr (k h r : Nat) (mv : Bool) : Nat := if k = 2 then (if mv = true ∧ ¬ k < 2 then h - 1 - r else r) - h / 2 else (if mv = true ∧ ¬ k < 2 then h - 1 - r else r)
theorem wh_m {W c : Nat} : (decide (c < W) == false) = decide (W ≤ c) := by
  by_cases z : c < W
  · rw [decide_eq_true z, decide_eq_false (by omega)]; rfl
  · rw [decide_eq_false z, decide_eq_true (by omega)]; rfl
theorem wh_t {b : Bool} : (b == true) = b := by cases b <;> rfl
theorem wh_pl (kf : Nat → Nat) (n x : Nat) (ok : fp_ok kf (n + 1)) (hx : x < 64) (c r i u : Nat) (hq : fp_pl kf n x = (c, r, i, u)) (mv : Bool) (hmv : whm (kf n) (fp_w kf n) (fp_h kf n) c r = mv) :
    fp_pl kf (n + 1) x = (whc (kf n) (fp_w kf n) c mv, whr (kf n) (fp_h kf n) r mv, if mv = true then 2 ^ n - 1 - i else 2 ^ n + i, if mv = true then 1 - u else u) := by
  have hw := fp_w_s ok
  have hh := fp_h_s ok
  have hb := fp_pl_b kf n x (fp_ok_p ok) hx
  rw [hq] at hb
  obtain ⟨b1, b2, -, -⟩ := hb
  have b1' : c < fp_w kf n := b1
  have b2' : r < fp_h kf n := b2
  have k4 := ok.1 n (by omega)
  have hk : kf n = 0 ∨ kf n = 1 ∨ kf n = 2 ∨ kf n = 3 := by omega
  have hm2 : (decide ((if kf n < 2 then (c, r, i, u).1 else (c, r, i, u).2.1) < (if kf n < 2 then fp_w kf (n + 1) else fp_h kf (n + 1))) == decide (kf n % 2 = 0)) = mv := by
    rw [← hmv]
    unfold whm
    rcases hk with e | e | e | e
    · rw [e] at hw hh ⊢
      rw [if_pos (by decide)] at hw
      rw [if_pos (by decide), if_pos (by decide), if_pos rfl, show fp_w kf n / 2 = fp_w kf (n + 1) by omega]
      exact wh_t
    · rw [e] at hw hh ⊢
      rw [if_pos (by decide)] at hw
      rw [if_pos (by decide), if_pos (by decide), if_neg (by decide), if_pos rfl, show fp_w kf n / 2 = fp_w kf (n + 1) by omega]
      exact wh_m
    · rw [e] at hw hh ⊢
      rw [if_neg (by decide)] at hh
      rw [if_neg (by decide), if_neg (by decide), if_neg (by decide), if_neg (by decide), if_pos rfl, show fp_h kf n / 2 = fp_h kf (n + 1) by omega]
      exact wh_t
    · rw [e] at hw hh ⊢
      rw [if_neg (by decide)] at hh
      rw [if_neg (by decide), if_neg (by decide), if_neg (by decide), if_neg (by decide), if_neg (by decide), show fp_h kf n / 2 = fp_h kf (n + 1) by omega]
      exact wh_m
  rw [fp_pl_s kf n x _ (c, r, i, u) mv _ hq rfl rfl hm2]
  dsimp only
  unfold whc whr fp_af
  rcases hk with e | e | e | e <;> rw [e] at hw hh ⊢
  · rw [if_pos (by decide)] at hw
    cases mv <;> simp <;> omega
  · rw [if_pos (by decide)] at hw
    cases mv <;> simp <;> omega
  · rw [if_neg (by decide)] at hh
    cases mv <;> simp <;> omega
  · rw [if_neg (by decide)] at hh
    cases mv <;> simp <;> omega
