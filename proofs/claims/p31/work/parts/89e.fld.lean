/-! the lowest bit; the first piece -/
theorem ib_neg (x : Int64) {i : Nat} (hi : i < 64) : ib (-x) i = (ib x i ^^ decide (∃ j, j < i ∧ ib x j = true)) := by
  unfold ib
  rw [Int64.toBitVec_neg, BitVec.getLsbD_neg]
  simp [hi]
theorem ib_low {x : Int64} {l : Nat} (h : ib x l = true) (hm : ∀ j, j < l → ib x j = false) {i : Nat} (hi : i < 64) : ib (x &&& -x) i = decide (i = l) := by
  rw [ib_and, ib_neg x hi]
  by_cases z : i < l
  · rw [hm i z, Bool.false_and]
    exact (decide_eq_false (by omega)).symm
  · by_cases z2 : i = l
    · subst z2
      rw [h, decide_eq_false (fun ⟨j, hj, e⟩ => by rw [hm j hj] at e; exact absurd e (by decide)), decide_eq_true rfl]
      rfl
    · rw [decide_eq_true (⟨l, by omega, h⟩ : ∃ j, j < i ∧ ib x j = true), decide_eq_false z2]
      cases ib x i <;> rfl
theorem lg_low {x : Int64} (h : ¬ x = 0) : ∃ l, l < 64 ∧ ib x l = true ∧ ∀ j, j < l → ib x j = false := by
  have e : ∃ i, i < 64 ∧ ib x i = true := Classical.byContradiction (fun q => h (ib_eq0.mpr (fun i hi => by
    by_cases z : ib x i = true
    · exact absurd ⟨i, hi, z⟩ q
    · simpa using z)))
  obtain ⟨i, hi, e⟩ := e
  obtain ⟨m, a, b, c⟩ := min_ex (fun i => ib x i = true) i e
  exact ⟨m, by omega, b, fun j hj => by simpa using c j hj⟩
theorem ct_mono' {p q : Nat → Bool} : ∀ {n : Nat}, (∀ k, k < n → p k = true → q k = true) → ct p n ≤ ct q n
  | 0, _ => Nat.le_refl _
  | n + 1, h => by
    show ct p n + (if p n = true then 1 else 0) ≤ ct q n + (if q n = true then 1 else 0)
    have := ct_mono' (p := p) (q := q) (n := n) (fun k hk => h k (by omega))
    have l := h n (by omega)
    by_cases z : p n = true
    · rw [if_pos z, if_pos (l z)]; omega
    · rw [if_neg z]; omega
theorem ct_lt {p q : Nat → Bool} {n : Nat} (h : ∀ k, k < n → p k = true → q k = true) {k : Nat} (hk : k < n) (hp : p k = false) (hq : q k = true) : ct p n < ct q n := by
  have a := ct_out q k n hk
  rw [if_pos hq] at a
  have b : ct p n ≤ ct (fun x => decide (x ≠ k) && q x) n := ct_mono' (fun j hj e => by
    have : j ≠ k := fun z => by subst z; rw [hp] at e; exact absurd e (by decide)
    simp [this, h j hj e])
  omega
/-- firstOf: the cells of x that a chain joins to its lowest cell -/
theorem pu_firstOf {x : Int64} {post : Int64 → Prop} (l : Nat) (hl : l < 64) (hx : ib x l = true) (hm : ∀ j, j < l → ib x j = false)
    (h : ∀ r : Int64, (∀ i, i < 64 → (ib r i = true ↔ cnx (ib x) l i)) → post r) : wp_X2_firstOf x post := by
  intro w hw
  subst hw
  have lo := fun i hi => ib_low hx hm (i := i) hi
  refine pu_besideOf (fun b hb => ?_)
  intro w4 h4
  intro P hP
  have key : ∀ d k (v g : Int64), k + d = 65 → k + 1 ≤ ct (ib v) 64 → ib v l = true → (∀ i, i < 64 → ib v i = true → cnx (ib x) l i) → (∀ i, i < 64 → (ib g i = true ↔ (ib v i = true ∨ (ib x i = true ∧ ∃ j, j < 64 ∧ ib v j = true ∧ adj j i)))) → P v g (nI k) := by
    intro d
    induction d with
    | zero =>
      intro k v g hk hc
      have := ct_le (ib v) 64
      omega
    | succ d ih =>
      intro k v g hk hc hvl hv hg
      have c64 := ct_le (ib v) 64
      refine hP _ _ _ ?_
      intro P51 h51
      refine br_f (nI_ge (a := k) (b := 64) (by omega) (by omega)) ?_
      have gc : ∀ i, i < 64 → ib g i = true → cnx (ib x) l i := fun i hi e => by
        rcases (hg i hi).mp e with e | ⟨fi, j, hj, e, ad⟩
        · exact hv i hi e
        · have cj := hv j hj e
          exact cnx_t cj (cnx_1 hj hi (cnx_in hl hx cj).2 fi ad)
      refine ⟨fun z => h51 (h g (fun i hi => ⟨gc i hi, fun c => ?_⟩)), fun z => ?_⟩
      · rw [lg_cmp_eq] at z
        subst z
        exact (c (fun y => y < 64 ∧ ib g y = true) (fun a b ha hb s fa fb e => ⟨hb, (hg b hb).mpr (Or.inr ⟨fb, a, ha, s.2, e⟩)⟩) ⟨hl, hvl⟩).2
      · rw [lg_cmp_eq] at z
        have up : ∀ i, i < 64 → ib v i = true → ib g i = true := fun i hi e => (hg i hi).mpr (Or.inl e)
        have df : ∃ i, i < 64 ∧ ib v i = false ∧ ib g i = true := Classical.byContradiction (fun q => z (ib_ext (fun i hi => by
          cases ev : ib v i
          · cases eg : ib g i
            · rfl
            · exact absurd ⟨i, hi, ev, eg⟩ q
          · exact up i hi ev)))
        obtain ⟨i, hi, e1, e2⟩ := df
        have lt := ct_lt up hi e1 e2
        refine pu_besideOf (fun b' hb' => ?_)
        intro w8 h8
        rw [pu_i1]
        refine ih (k + 1) g w8 (by omega) (by omega) (up l hl hvl) gc (fun i hi => ?_)
        rw [h8, ib_or, ib_and, Bool.or_eq_true, Bool.and_eq_true, hb' i hi]
        exact ⟨fun q => q.elim Or.inl (fun q => Or.inr ⟨q.2, q.1⟩), fun q => q.elim Or.inl (fun q => Or.inr ⟨q.2, q.1⟩)⟩
  have l1 : ib (x &&& -x) l = true := by rw [lo l hl]; exact decide_eq_true rfl
  refine key 65 0 _ _ (by omega) ?_ l1 (fun i hi e => ?_) (fun i hi => ?_)
  · have := ct_out (ib (x &&& -x)) l 64 hl
    rw [if_pos l1] at this
    omega
  · rw [lo i hi, decide_eq_true_eq] at e
    subst e
    exact cnx_r _ _
  · rw [h4, ib_or, ib_and b x, Bool.or_eq_true, Bool.and_eq_true, hb i hi]
    exact ⟨fun q => q.elim Or.inl (fun q => Or.inr ⟨q.2, q.1⟩), fun q => q.elim Or.inl (fun q => Or.inr ⟨q.2, q.1⟩)⟩
