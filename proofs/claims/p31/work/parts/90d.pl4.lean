/-! the law's pieces: from cell to cell -/
def nbr (y i z : Nat) : Prop := (i = 0 ∧ z = y + 1 ∧ y % 8 ≠ 7) ∨ (i = 1 ∧ y = z + 1 ∧ y % 8 ≠ 0) ∨ (i = 2 ∧ z = y + 8) ∨ (i = 3 ∧ y = z + 8)
theorem nbr_adj {y i z : Nat} (h : nbr y i z) : adj y z := by
  unfold nbr at h
  unfold adj
  omega
theorem adj_nbr {y z : Nat} (h : adj y z) : ∃ i, i < 4 ∧ nbr y i z := by
  unfold adj at h
  unfold nbr
  rcases h with h | h | h | h
  · exact ⟨0, by omega, by omega⟩
  · exact ⟨1, by omega, by omega⟩
  · exact ⟨2, by omega, by omega⟩
  · exact ⟨3, by omega, by omega⟩
theorem nbr_u {y i z z' : Nat} (h : nbr y i z) (h' : nbr y i z') : z = z' := by
  unfold nbr at h h'
  omega
/-- what is known while the row is gone through: a of b done -/
def pcI (f : Nat → Bool) (lab : Nat → Nat) (t a b : Nat) (seen next : Nat → Int32) (mem : Nat → Bool) : Prop :=
  b = ct mem 64 ∧ a ≤ b ∧ (∀ x, x < 64 → seen x = bI ((f x && decide (lab x < t)) || mem x)) ∧ (∀ x, x < 64 → mem x = true → f x = true ∧ lab x = t) ∧ (∀ k, k < b → ∃ z, z < 64 ∧ next k = nI z ∧ mem z = true) ∧ (∀ x, x < 64 → mem x = true → ∃ k, k < b ∧ next k = nI x) ∧ mem t = true ∧ (∀ k, k < a → ∀ z z', z < 64 → z' < 64 → next k = nI z → adj z z' → f z' = true → mem z' = true)
/-- and of the next cell y its first j directions -/
def pcJ (f : Nat → Bool) (lab : Nat → Nat) (t a y j b : Nat) (seen next : Nat → Int32) (mem : Nat → Bool) : Prop :=
  pcI f lab t a b seen next mem ∧ a < b ∧ next a = nI y ∧ y < 64 ∧ mem y = true ∧ ∀ i, i < j → ∀ z, z < 64 → nbr y i z → f z = true → mem z = true
theorem pc_skip {f : Nat → Bool} {lab : Nat → Nat} {t a y j b : Nat} {seen next : Nat → Int32} {mem : Nat → Bool} (h : pcJ f lab t a y j b seen next mem) (n : ∀ z, z < 64 → nbr y j z → f z = true → mem z = true) : pcJ f lab t a y (j + 1) b seen next mem := by
  obtain ⟨h1, h2, h3, h4, h5, h6⟩ := h
  refine ⟨h1, h2, h3, h4, h5, fun i hi z hz hn fz => ?_⟩
  by_cases e : i = j
  · subst e; exact n z hz hn fz
  · exact h6 i (by omega) z hz hn fz
theorem pc_lab {f : Nat → Bool} {lab : Nat → Nat} (hL : Lb f lab) {t a y j b : Nat} {seen next : Nat → Int32} {mem : Nat → Bool} (h : pcJ f lab t a y j b seen next mem) {i z : Nat} (hz : z < 64) (hn : nbr y i z) (fz : f z = true) : lab z = t := by
  obtain ⟨⟨-, -, -, m, -⟩, -, -, hy, my, -⟩ := h
  obtain ⟨fy, ly⟩ := m y hy my
  rw [← ly]
  exact (hL.2 y z hy hz fy fz (nbr_adj hn)).symm
theorem pc_add {f : Nat → Bool} {lab : Nat → Nat} (hL : Lb f lab) {t a y j b z : Nat} {seen next : Nat → Int32} {mem : Nat → Bool} (h : pcJ f lab t a y j b seen next mem) (hz : z < 64) (hn : nbr y j z) (fz : f z = true) (mz : mem z = false) :
    b < 64 ∧ pcJ f lab t a y (j + 1) (b + 1) (upd seen z 1) (upd next b (nI z)) (fun x => mem x || decide (z = x)) := by
  have lz := pc_lab hL h hz hn fz
  obtain ⟨⟨g1, g2, g3, g4, g5, g6, g7, g8⟩, h2, h3, h4, h5, h6⟩ := h
  have e := ct_set mem z 64 hz
  rw [if_neg (by rw [mz]; decide)] at e
  have l := ct_le (fun x => mem x || decide (z = x)) 64
  have up : ∀ x, mem x = true → (mem x || decide (z = x)) = true := fun x q => by rw [q]; rfl
  refine ⟨by omega, ⟨by omega, by omega, fun x hx => ?_, fun x hx q => ?_, fun k hk => ?_, fun x hx q => ?_, up t g7, fun k hk x x' hx hx' e1 e2 e3 => ?_⟩, by omega, ?_, h4, up y h5, fun i hi x hx hn' fx => ?_⟩
  · rw [pu_upd]
    show (if x = z then (1 : Int32) else seen x) = bI ((f x && decide (lab x < t)) || (mem x || decide (z = x)))
    by_cases q : x = z
    · subst q
      rw [if_pos rfl, decide_eq_true (rfl : x = x), Bool.or_true, Bool.or_true]
      rfl
    · rw [if_neg q, g3 x hx, decide_eq_false (show ¬ z = x from fun q2 => q q2.symm), Bool.or_false]
  · rw [Bool.or_eq_true, decide_eq_true_eq] at q
    rcases q with q | q
    · exact g4 x hx q
    · subst q; exact ⟨fz, lz⟩
  · rw [pu_upd]
    by_cases q : k = b
    · rw [if_pos q]
      exact ⟨z, hz, rfl, by simp⟩
    · rw [if_neg q]
      obtain ⟨w, w1, w2, w3⟩ := g5 k (by omega)
      exact ⟨w, w1, w2, up w w3⟩
  · rw [Bool.or_eq_true, decide_eq_true_eq] at q
    rcases q with q | q
    · obtain ⟨k, k1, k2⟩ := g6 x hx q
      refine ⟨k, by omega, ?_⟩
      rw [pu_upd, if_neg (by omega)]
      exact k2
    · subst q
      exact ⟨b, by omega, by rw [pu_upd, if_pos rfl]⟩
  · rw [pu_upd, if_neg (by omega)] at e1
    exact up _ (g8 k hk x x' hx hx' e1 e2 e3)
  · rw [pu_upd, if_neg (by omega)]
    exact h3
  · by_cases q : i = j
    · subst q
      have := nbr_u hn hn'
      subst this
      simp
    · exact up _ (h6 i (by omega) x hx hn' fx)
theorem pc_go0 {f : Nat → Bool} {lab : Nat → Nat} {t a y j b : Nat} {seen next vh : Nat → Int32} {mem : Nat → Bool} {P74 : Int32 → Int32 → (Nat → Int32) → (Nat → Int32) → Prop} {X : Prop} (hJ : pcJ f lab t a y j b seen next mem) (no : ∀ z, z < 64 → ¬ nbr y j z)
    (nx : ∀ b' s' n' m', pcJ f lab t a y (j + 1) b' s' n' m' → P74 (nI b') (nI (j + 1)) s' n') (P225 : Int32 → (Nat → Int32) → (Nat → Int32) → Prop) (h225 : ∀ v s n, P74 v (nI j + (1 : Int32)) s n → P225 v s n) :
    (((0 : Int32) = 0) → P225 (nI b) seen next) ∧ ((¬ (0 : Int32) = 0) → X) := by
  refine br_t rfl (h225 _ _ _ ?_)
  rw [pu_i1]
  exact nx _ _ _ _ (pc_skip hJ (fun z hz hn _ => absurd hn (no z hz)))
theorem pc_go1 {f : Nat → Bool} {lab : Nat → Nat} (hL : Lb f lab) {t a y j b z : Nat} {seen next vh : Nat → Int32} {mem : Nat → Bool} {P74 : Int32 → Int32 → (Nat → Int32) → (Nat → Int32) → Prop} {w : Int32} (hvh : ∀ x, x < 64 → vh x = bI (!f x)) (hJ : pcJ f lab t a y j b seen next mem) (hz : z < 64) (hn : nbr y j z) (hw : w = nI z)
    (nx : ∀ b' s' n' m', pcJ f lab t a y (j + 1) b' s' n' m' → P74 (nI b') (nI (j + 1)) s' n') (P225 : Int32 → (Nat → Int32) → (Nat → Int32) → Prop) (h225 : ∀ v s n, P74 v (nI j + (1 : Int32)) s n → P225 v s n) :
    (((1 : Int32) = 0) → P225 (nI b) seen next) ∧ ((¬ (1 : Int32) = 0) → vp_in w 64 ∧ (((¬ (vh (w).toNatClampNeg) = 0) → P225 (nI b) seen next) ∧ (((vh (w).toNatClampNeg) = 0) → vp_in w 64 ∧ (((¬ (seen (w).toNatClampNeg) = 0) → P225 (nI b) seen next) ∧ (((seen (w).toNatClampNeg) = 0) → vp_in w 64 ∧ (vp_in (nI b) 64 ∧ (P225 (nI b + (1 : Int32)) (upd seen (w).toNatClampNeg (1 : Int32)) (upd next (nI b).toNatClampNeg w)))))))) := by
  subst hw
  have iz : vp_in (nI z) 64 := vp_in_nI hz (by omega)
  have sk : (f z = true → mem z = true) → P225 (nI b) seen next := fun q => h225 _ _ _ (by
    rw [pu_i1]
    exact nx _ _ _ _ (pc_skip hJ (fun x hx hn' fx => by
      have := nbr_u hn hn'
      subst this
      exact q fx)))
  refine br_f (by decide) ⟨iz, ?_⟩
  rw [nI_clamp (n := z) (by omega), hvh z hz]
  cases fz : f z
  · exact br_n (by decide) (sk (fun q => by rw [fz] at q; exact absurd q (by decide)))
  · refine br_e rfl ⟨iz, ?_⟩
    have lz := pc_lab hL hJ hz hn fz
    have s := hJ.1.2.2.1 z hz
    rw [fz, lz, decide_eq_false (Nat.lt_irrefl t), Bool.and_false, Bool.false_or] at s
    rw [s]
    cases mz : mem z
    · obtain ⟨b64, hJ'⟩ := pc_add hL hJ hz hn fz mz
      refine br_e rfl ⟨iz, vp_in_nI b64 (by omega), h225 _ _ _ ?_⟩
      rw [nI_clamp (n := b) (by omega), pu_i1, pu_i1]
      exact nx _ _ _ _ hJ'
    · exact br_n (by decide) (sk (fun _ => mz))
theorem pc_th {w10 w11 : Int32} {P : Int32 → Prop} (h0 : (w10 < 0 ∨ (8 : Int32) ≤ w10 ∨ w11 < 0 ∨ (8 : Int32) ≤ w11) → P 0) (h1 : ¬ w10 < 0 → ¬ (8 : Int32) ≤ w10 → ¬ w11 < 0 → ¬ (8 : Int32) ≤ w11 → P 1) : ∀ R : Prop, (P (0 : Int32) → R) → ((w10 < 0) → R) ∧ ((¬ w10 < 0) → (((8 : Int32) ≤ w10) → R) ∧ ((¬ (8 : Int32) ≤ w10) → ((w11 < 0) → R) ∧ ((¬ w11 < 0) → (((8 : Int32) ≤ w11) → R) ∧ ((¬ (8 : Int32) ≤ w11) → P (1 : Int32))))) :=
  fun R hR => ⟨fun z => hR (h0 (Or.inl z)), fun z1 => ⟨fun z => hR (h0 (Or.inr (Or.inl z))), fun z2 => ⟨fun z => hR (h0 (Or.inr (Or.inr (Or.inl z)))), fun z3 => ⟨fun z => hR (h0 (Or.inr (Or.inr (Or.inr z)))), fun z4 => h1 z1 z2 z3 z4⟩⟩⟩⟩
theorem pc_end {f : Nat → Bool} {lab : Nat → Nat} (hL : Lb f lab) {t a b : Nat} {seen next : Nat → Int32} {mem : Nat → Bool} (ht : t < 64) (h : pcI f lab t a b seen next mem) (hab : b ≤ a) {x : Nat} (hx : x < 64) : mem x = (f x && decide (lab x = t)) := by
  obtain ⟨g1, g2, g3, g4, g5, g6, g7, g8⟩ := h
  cases m : mem x
  · cases e : (f x && decide (lab x = t))
    · rfl
    · rw [Bool.and_eq_true, decide_eq_true_eq] at e
      have c := (hL.1 x hx e.1).2
      rw [e.2] at c
      have := c (fun z => z < 64 ∧ mem z = true) (fun u v hu hv su fu fv ad => by
        obtain ⟨k, k1, k2⟩ := g6 u hu su.2
        exact ⟨hv, g8 k (by omega) u v hu hv k2 ad fv⟩) ⟨ht, g7⟩
      rw [m] at this
      exact absurd this.2 (by decide)
  · obtain ⟨e1, e2⟩ := g4 x hx m
    rw [e1, e2, decide_eq_true rfl]
    rfl
