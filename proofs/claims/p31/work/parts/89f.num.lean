/-! the class's number of pieces, and the largest -/
theorem ct_none {p : Nat → Bool} : ∀ {n : Nat}, (∀ k, k < n → p k = false) → ct p n = 0
  | 0, _ => rfl
  | n + 1, h => by
    show ct p n + (if p n = true then 1 else 0) = 0
    rw [ct_none (fun k hk => h k (by omega)), if_neg (by rw [h n (by omega)]; decide)]
theorem ct_skip {p : Nat → Bool} {t l : Nat} (h : t ≤ l) (hn : ∀ j, t ≤ j → j < l → p j = false) : ct p l = ct p t := by
  have e := ct_add p t (l - t)
  rw [show t + (l - t) = l by omega, ct_none (fun k hk => hn (t + k) (by omega) (by omega))] at e
  omega
theorem mx_skip {f : Nat → Bool} {lab : Nat → Nat} {t : Nat} : ∀ {l : Nat}, t ≤ l → (∀ j, t ≤ j → j < l → isR f lab j = false) → mxP f lab l = mxP f lab t
  | 0, h, _ => by rw [show t = 0 by omega]
  | l + 1, h, hn => by
    by_cases z : t = l + 1
    · rw [z]
    · show (if isR f lab l = true then _ else mxP f lab l) = _
      rw [if_neg (by rw [hn l (by omega) (by omega)]; decide)]
      exact mx_skip (by omega) (fun j a b => hn j a (by omega))
theorem rest_low {f : Nat → Bool} {lab : Nat → Nat} (h : Lb f lab) {v : Int64} {t l : Nat} (hv : ∀ i, i < 64 → ib v i = (f i && decide (t ≤ lab i))) (hl : l < 64) (e : ib v l = true) (hm : ∀ j, j < l → ib v j = false) :
    lab l = l ∧ f l = true ∧ t ≤ l ∧ ∀ j, t ≤ j → j < l → isR f lab j = false := by
  have e' := hv l hl
  rw [e] at e'
  have e2 := e'.symm
  rw [Bool.and_eq_true, decide_eq_true_eq] at e2
  obtain ⟨fl, tl⟩ := e2
  obtain ⟨a, b, c⟩ := Lb_lab h hl fl
  have le := (h.1 l hl fl).1
  have ll : lab l = l := by
    refine Classical.byContradiction (fun q => ?_)
    have := hm (lab l) (by omega)
    rw [hv _ a, b, c, decide_eq_true tl] at this
    exact absurd this (by decide)
  refine ⟨ll, fl, by omega, fun j h1 h2 => ?_⟩
  refine Classical.byContradiction (fun q => ?_)
  have q' : isR f lab j = true := by simpa using q
  unfold isR at q'
  rw [Bool.and_eq_true, decide_eq_true_eq] at q'
  have := hm j h2
  rw [hv j (by omega), q'.1, q'.2, decide_eq_true h1] at this
  exact absurd this (by decide)
theorem rest_piece {f : Nat → Bool} {lab : Nat → Nat} (h : Lb f lab) {v : Int64} {t l : Nat} (hv : ∀ i, i < 64 → ib v i = (f i && decide (t ≤ lab i))) (hl : l < 64) (fl : f l = true) (ll : lab l = l) (tl : t ≤ l) {i : Nat} (hi : i < 64) :
    cnx (ib v) l i ↔ (f i = true ∧ lab i = l) := by
  constructor
  · intro c
    have c' : cnx f l i := fun S cl s => c S (fun a b ha hb sa fa fb e => cl a b ha hb sa (by
      rw [hv a ha, Bool.and_eq_true] at fa; exact fa.1) (by
      rw [hv b hb, Bool.and_eq_true] at fb; exact fb.1) e) s
    exact ⟨(cnx_in hl fl c').2, (Lb_cnx h hl fl c').trans ll⟩
  · rintro ⟨fi, li⟩
    have c : cnx f l i := (Lb_iff h hl fl hi fi).mpr (by rw [ll, li])
    exact (c (fun y => y < 64 ∧ f y = true ∧ lab y = l ∧ cnx (ib v) l y) (fun a b ha hb s fa fb e => by
      have lb : lab b = l := by rw [← h.2 a b ha hb fa fb e]; exact s.2.2.1
      refine ⟨hb, fb, lb, cnx_t s.2.2.2 (cnx_1 ha hb ?_ ?_ e)⟩
      · rw [hv a ha, fa, s.2.2.1, decide_eq_true tl]; rfl
      · rw [hv b hb, fb, lb, decide_eq_true tl]; rfl) ⟨hl, fl, ll, cnx_r _ _⟩).2.2.2
theorem rest_next {f : Nat → Bool} {lab : Nat → Nat} (h : Lb f lab) {v r : Int64} {t l : Nat} (hv : ∀ i, i < 64 → ib v i = (f i && decide (t ≤ lab i))) (tl : t ≤ l) (hn : ∀ j, t ≤ j → j < l → isR f lab j = false) (hr : ∀ i, i < 64 → (ib r i = true ↔ (f i = true ∧ lab i = l))) {i : Nat} (hi : i < 64) :
    ib (v &&& (r ^^^ (-1 : Int64))) i = (f i && decide (l + 1 ≤ lab i)) := by
  rw [ib_and, ib_not r hi, hv i hi]
  cases fi : f i
  · rfl
  · obtain ⟨a, b, c⟩ := Lb_lab h hi fi
    have e := hr i hi
    rw [fi] at e
    by_cases z : lab i = l
    · rw [e.mpr ⟨rfl, z⟩, decide_eq_false (show ¬ l + 1 ≤ lab i by omega)]
      rw [Bool.not_true, Bool.and_false]
      rfl
    · have e2 : ib r i = false := by
        cases q : ib r i
        · rfl
        · exact absurd (e.mp q).2 z
      rw [e2, Bool.not_false, Bool.and_true, Bool.true_and, Bool.true_and]
      refine decide_eq_decide.mpr ⟨fun q => ?_, fun q => by omega⟩
      refine Classical.byContradiction (fun q2 => ?_)
      have := hn (lab i) q (by omega)
      unfold isR at this
      rw [b, c, decide_eq_true rfl] at this
      exact absurd this (by decide)
theorem rest_end {f : Nat → Bool} {lab : Nat → Nat} {v : Int64} {t : Nat} (hv : ∀ i, i < 64 → ib v i = (f i && decide (t ≤ lab i))) (z : v = 0) : ∀ j, t ≤ j → j < 64 → isR f lab j = false := fun j h1 h2 => by
  have e := hv j h2
  rw [z, ib_0] at e
  refine Classical.byContradiction (fun q => ?_)
  have q' : isR f lab j = true := by simpa using q
  unfold isR at q'
  rw [Bool.and_eq_true, decide_eq_true_eq] at q'
  rw [q'.1, q'.2, decide_eq_true h1] at e
  exact absurd e (by decide)
theorem pu_numberIn {x : Int64} {post : Int32 → Prop} (f : Nat → Bool) (lab : Nat → Nat) (hL : Lb f lab) (hx : ∀ i, i < 64 → ib x i = f i) (h : post (nI (ct (isR f lab) 64))) : wp_X2_numberIn x post := by
  intro P hP
  have key : ∀ d t (v : Int64), 64 ≤ t + d → t ≤ 64 → (∀ i, i < 64 → ib v i = (f i && decide (t ≤ lab i))) → P v (nI (ct (isR f lab) t)) (nI (ct (isR f lab) t)) := by
    intro d
    induction d with
    | zero =>
      intro t v hd ht hv
      have : t = 64 := by omega
      subst this
      refine hP _ _ _ (fun P41 h41 => ?_)
      have fin := h41 h
      refine ⟨fun _ => fin, fun _ => ⟨fun _ => fin, fun z => ?_⟩⟩
      rw [lg_cmp_eq] at z
      obtain ⟨l, hl, e, hm⟩ := lg_low z
      have := (rest_low hL hv hl e hm).2.2.1
      omega
    | succ d ih =>
      intro t v hd ht hv
      have c64 := ct_le (isR f lab) t
      refine hP _ _ _ (fun P41 h41 => ?_)
      refine ⟨fun z => h41 ?_, fun _ => ⟨fun z => h41 ?_, fun z => ?_⟩⟩
      · have : ¬ ct (isR f lab) t < 64 := fun q => nI_ge q (by omega) z
        rw [show t = 64 by omega]
        exact h
      · rw [lg_cmp_eq] at z
        rw [← ct_skip ht (rest_end hv z)]
        exact h
      · rw [lg_cmp_eq] at z
        obtain ⟨l, hl, e, hm⟩ := lg_low z
        obtain ⟨ll, fl, tl, hn⟩ := rest_low hL hv hl e hm
        refine pu_firstOf l hl e hm (fun r hr => ?_)
        intro w hw
        subst hw
        have hr' : ∀ i, i < 64 → (ib r i = true ↔ (f i = true ∧ lab i = l)) := fun i hi => (hr i hi).trans (rest_piece hL hv hl fl ll tl hi)
        have nx := ih (l + 1) _ (by omega) (by omega) (fun i hi => rest_next hL hv tl hn hr' hi)
        have ec : ct (isR f lab) (l + 1) = ct (isR f lab) t + 1 := by
          show ct (isR f lab) l + (if isR f lab l = true then 1 else 0) = _
          rw [ct_skip tl hn, if_pos (by unfold isR; rw [fl, ll, decide_eq_true rfl]; rfl)]
        rw [ec] at nx
        rw [pu_i1]
        exact nx
  exact key 64 0 x (by omega) (by omega) (fun i hi => by rw [hx i hi, decide_eq_true (Nat.zero_le _), Bool.and_true])
theorem szP_le (f : Nat → Bool) (lab : Nat → Nat) (l : Nat) : szP f lab l ≤ 64 := ct_le _ _
theorem mxP_le (f : Nat → Bool) (lab : Nat → Nat) : ∀ t, mxP f lab t ≤ 64
  | 0 => by show 0 ≤ 64; omega
  | t + 1 => by
    have := mxP_le f lab t
    have := szP_le f lab t
    show (if isR f lab t = true then max (mxP f lab t) (szP f lab t) else mxP f lab t) ≤ 64
    split <;> omega
theorem nI_max {a b : Nat} (ha : a < 2 ^ 31) (hb : b < 2 ^ 31) : (if nI a < nI b then nI b else nI a) = nI (max a b) := by
  by_cases z : a < b
  · rw [if_pos (nI_lt' z hb), Nat.max_eq_right (by omega)]
  · rw [if_neg (nI_nlt' (by omega) ha), Nat.max_eq_left (by omega)]
theorem pu_largestIn {x : Int64} {post : Int32 → Prop} (f : Nat → Bool) (lab : Nat → Nat) (hL : Lb f lab) (hx : ∀ i, i < 64 → ib x i = f i) (h : post (nI (mxP f lab 64))) : wp_X2_largestIn x post := by
  intro P hP
  have key : ∀ d t (v : Int64), 64 ≤ t + d → t ≤ 64 → (∀ i, i < 64 → ib v i = (f i && decide (t ≤ lab i))) → P v (nI (mxP f lab t)) (nI (ct (isR f lab) t)) := by
    intro d
    induction d with
    | zero =>
      intro t v hd ht hv
      have : t = 64 := by omega
      subst this
      refine hP _ _ _ (fun P41 h41 => ?_)
      have fin := h41 h
      refine ⟨fun _ => fin, fun _ => ⟨fun _ => fin, fun z => ?_⟩⟩
      rw [lg_cmp_eq] at z
      obtain ⟨l, hl, e, hm⟩ := lg_low z
      have := (rest_low hL hv hl e hm).2.2.1
      omega
    | succ d ih =>
      intro t v hd ht hv
      have c64 := ct_le (isR f lab) t
      refine hP _ _ _ (fun P41 h41 => ?_)
      refine ⟨fun z => h41 ?_, fun _ => ⟨fun z => h41 ?_, fun z => ?_⟩⟩
      · have : ¬ ct (isR f lab) t < 64 := fun q => nI_ge q (by omega) z
        rw [show t = 64 by omega]
        exact h
      · rw [lg_cmp_eq] at z
        rw [← mx_skip ht (rest_end hv z)]
        exact h
      · rw [lg_cmp_eq] at z
        obtain ⟨l, hl, e, hm⟩ := lg_low z
        obtain ⟨ll, fl, tl, hn⟩ := rest_low hL hv hl e hm
        refine pu_firstOf l hl e hm (fun r hr => ?_)
        intro w hw
        subst hw
        have hr' : ∀ i, i < 64 → (ib r i = true ↔ (f i = true ∧ lab i = l)) := fun i hi => (hr i hi).trans (rest_piece hL hv hl fl ll tl hi)
        have nx := ih (l + 1) _ (by omega) (by omega) (fun i hi => rest_next hL hv tl hn hr' hi)
        have rl : isR f lab l = true := by unfold isR; rw [fl, ll, decide_eq_true rfl]; rfl
        have ec : ct (isR f lab) (l + 1) = ct (isR f lab) t + 1 := by
          show ct (isR f lab) l + (if isR f lab l = true then 1 else 0) = _
          rw [ct_skip tl hn, if_pos rl]
        have em : mxP f lab (l + 1) = max (mxP f lab t) (szP f lab l) := by
          show (if isR f lab l = true then max (mxP f lab l) (szP f lab l) else _) = _
          rw [if_pos rl, mx_skip tl hn]
        have es : cB r = szP f lab l := ct_congr (fun i hi => by
          cases q : ib r i
          · refine (Bool.eq_false_iff.mpr (fun q2 => ?_)).symm
            rw [Bool.and_eq_true, decide_eq_true_eq] at q2
            rw [(hr' i hi).mpr q2] at q
            exact absurd q (by decide)
          · have := (hr' i hi).mp q
            rw [this.1, this.2, decide_eq_true rfl]; rfl)
        rw [ec, em] at nx
        refine pu_bitCount ?_
        intro w4 h4
        have := mxP_le f lab t
        have := szP_le f lab l
        rw [h4, es, nI_max (by omega) (by omega), pu_i1]
        exact nx
  exact key 64 0 x (by omega) (by omega) (fun i hi => by rw [hx i hi, decide_eq_true (Nat.zero_le _), Bool.and_true])
