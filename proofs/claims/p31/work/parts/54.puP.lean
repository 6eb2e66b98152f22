/-! where a cell is -/
def fp_af (x half : Nat) (fm mv : Bool) : Nat := if fm then (if mv then 2 * half - 1 - x else x) - half else (if mv then 2 * half - 1 - x else x)
/-- column, row, index, side of a cell after n folds -/
def fp_pl (kf : Nat → Nat) : Nat → Nat → Nat × Nat × Nat × Nat
  | 0, x => (x % 8, x / 8, 0, 0)
  | n + 1, x =>
    let q := fp_pl kf n x
    let half := if kf n < 2 then fp_w kf (n + 1) else fp_h kf (n + 1)
    let fm := decide (kf n % 2 = 0)
    let mv := decide ((if kf n < 2 then q.1 else q.2.1) < half) == fm
    (if kf n < 2 then fp_af q.1 half fm mv else q.1, if kf n < 2 then q.2.1 else fp_af q.2.1 half fm mv, if mv then 2 ^ n - 1 - q.2.2.1 else 2 ^ n + q.2.2.1, if mv then 1 - q.2.2.2 else q.2.2.2)
theorem fp_af_lt {x half : Nat} {fm mv : Bool} (h : x < 2 * half) (e : mv = (decide (x < half) == fm)) : fp_af x half fm mv < half := by
  subst e
  unfold fp_af
  by_cases z : x < half
  · cases fm <;> simp [z] <;> omega
  · cases fm <;> simp [z] <;> omega
theorem fp_ah_af {x half : Nat} {fm mv : Bool} (h : x < 2 * half) (e : mv = (decide (x < half) == fm)) : fp_ah (fp_af x half fm mv) half fm mv = x := by
  subst e
  unfold fp_af fp_ah
  by_cases z : x < half
  · cases fm <;> simp [z] <;> omega
  · cases fm <;> simp [z] <;> omega
theorem fp_af_ah {x half : Nat} {fm mv : Bool} (h : x < half) : fp_af (fp_ah x half fm mv) half fm mv = x ∧ mv = (decide (fp_ah x half fm mv < half) == fm) := by
  unfold fp_af fp_ah
  cases fm <;> cases mv <;> simp <;> omega
theorem fp_pl_b (kf : Nat → Nat) : ∀ n x, fp_ok kf n → x < 64 → (fp_pl kf n x).1 < fp_w kf n ∧ (fp_pl kf n x).2.1 < fp_h kf n ∧ (fp_pl kf n x).2.2.1 < 2 ^ n ∧ (fp_pl kf n x).2.2.2 ≤ 1
  | 0, x, _, hx => by
    refine ⟨?_, ?_, ?_, ?_⟩
    · rw [show fp_w kf 0 = 8 by simp [fp_w, fp_pa]]
      show x % 8 < 8
      omega
    · rw [show fp_h kf 0 = 8 by simp [fp_h, fp_pa]]
      show x / 8 < 8
      omega
    · show 0 < 1
      omega
    · show 0 ≤ 1
      omega
  | n + 1, x, ok, hx => by
    obtain ⟨h1, h2, h3, h4⟩ := fp_pl_b kf n x (fp_ok_p ok) hx
    have hw := fp_w_s ok
    have hh := fp_h_s ok
    have h2' : 2 ^ (n + 1) = 2 * 2 ^ n := by rw [Nat.pow_succ]; omega
    unfold fp_pl
    dsimp only
    generalize fp_pl kf n x = q at *
    by_cases z : kf n < 2
    · simp only [z, if_true] at hw hh ⊢
      refine ⟨fp_af_lt (by omega) rfl, by omega, ?_, ?_⟩
      · split <;> omega
      · split <;> omega
    · simp only [z, if_false] at hw hh ⊢
      refine ⟨by omega, fp_af_lt (by omega) rfl, ?_, ?_⟩
      · split <;> omega
      · split <;> omega
theorem fp_tu2 (x u : Nat) (h : u ≤ 1) : fp_tu (2 * x + u) = 2 * x + (1 - u) := by
  unfold fp_tu
  split <;> omega
theorem fp_us_s (kf : Nat → Nat) (n c r i : Nat) (mv fm : Bool) (h : decide (i < 2 ^ n) = mv) (h2 : decide (kf n % 2 = 0) = fm) : fp_us kf (n + 1) c r i = if mv = true then fp_tu (fp_us kf n (if kf n < 2 then fp_ah c (fp_w kf (n + 1)) fm mv else c) (if kf n < 2 then r else fp_ah r (fp_h kf (n + 1)) fm mv) (if mv = true then 2 ^ n - 1 - i else i - 2 ^ n)) else fp_us kf n (if kf n < 2 then fp_ah c (fp_w kf (n + 1)) fm mv else c) (if kf n < 2 then r else fp_ah r (fp_h kf (n + 1)) fm mv) (if mv = true then 2 ^ n - 1 - i else i - 2 ^ n) := by
  subst h h2
  rfl
theorem fp_pl_s (kf : Nat → Nat) (n x half : Nat) (q : Nat × Nat × Nat × Nat) (mv fm : Bool) (hq : fp_pl kf n x = q) (hh : (if kf n < 2 then fp_w kf (n + 1) else fp_h kf (n + 1)) = half) (h2 : decide (kf n % 2 = 0) = fm) (h : (decide ((if kf n < 2 then q.1 else q.2.1) < half) == fm) = mv) : fp_pl kf (n + 1) x = (if kf n < 2 then fp_af q.1 half fm mv else q.1, if kf n < 2 then q.2.1 else fp_af q.2.1 half fm mv, if mv = true then 2 ^ n - 1 - q.2.2.1 else 2 ^ n + q.2.2.1, if mv = true then 1 - q.2.2.2 else q.2.2.2) := by
  subst h h2 hh hq
  rfl
/-- the layer at a cell's place is the cell -/
theorem fp_us_pl (kf : Nat → Nat) : ∀ n x, fp_ok kf n → x < 64 → fp_us kf n (fp_pl kf n x).1 (fp_pl kf n x).2.1 (fp_pl kf n x).2.2.1 = 2 * x + (fp_pl kf n x).2.2.2
  | 0, x, _, hx => by
    show 2 * (8 * (x / 8) + x % 8) = 2 * x + 0
    omega
  | n + 1, x, ok, hx => by
    have ih := fp_us_pl kf n x (fp_ok_p ok) hx
    obtain ⟨h1, h2, h3, h4⟩ := fp_pl_b kf n x (fp_ok_p ok) hx
    have hw := fp_w_s ok
    have hh := fp_h_s ok
    obtain ⟨q, hq⟩ : ∃ q, fp_pl kf n x = q := ⟨_, rfl⟩
    obtain ⟨half, hhalf⟩ : ∃ half, (if kf n < 2 then fp_w kf (n + 1) else fp_h kf (n + 1)) = half := ⟨_, rfl⟩
    obtain ⟨fm, hfm⟩ : ∃ fm, decide (kf n % 2 = 0) = fm := ⟨_, rfl⟩
    obtain ⟨mv, hmv⟩ : ∃ mv, (decide ((if kf n < 2 then q.1 else q.2.1) < half) == fm) = mv := ⟨_, rfl⟩
    rw [fp_pl_s kf n x half q mv fm hq hhalf hfm hmv]
    rw [hq] at ih h1 h2 h3 h4
    dsimp only
    have ei : decide ((if mv = true then 2 ^ n - 1 - q.2.2.1 else 2 ^ n + q.2.2.1) < 2 ^ n) = mv := by
      cases mv
      · simp
      · simp; omega
    rw [fp_us_s kf n _ _ _ mv fm ei hfm]
    have e2 : (if mv = true then 2 ^ n - 1 - (if mv = true then 2 ^ n - 1 - q.2.2.1 else 2 ^ n + q.2.2.1) else (if mv = true then 2 ^ n - 1 - q.2.2.1 else 2 ^ n + q.2.2.1) - 2 ^ n) = q.2.2.1 := by
      cases mv
      · simp
      · simp; omega
    rw [e2]
    have ec : (if kf n < 2 then fp_ah (if kf n < 2 then fp_af q.1 half fm mv else q.1) (fp_w kf (n + 1)) fm mv else (if kf n < 2 then fp_af q.1 half fm mv else q.1)) = q.1 := by
      by_cases z : kf n < 2
      · simp only [z, if_true] at hw hmv hhalf ⊢
        rw [hhalf]
        exact fp_ah_af (by omega) hmv.symm
      · simp only [z, if_false]
    have er : (if kf n < 2 then (if kf n < 2 then q.2.1 else fp_af q.2.1 half fm mv) else fp_ah (if kf n < 2 then q.2.1 else fp_af q.2.1 half fm mv) (fp_h kf (n + 1)) fm mv) = q.2.1 := by
      by_cases z : kf n < 2
      · simp only [z, if_true]
      · simp only [z, if_false] at hh hmv hhalf ⊢
        rw [hhalf]
        exact fp_ah_af (by omega) hmv.symm
    rw [ec, er, ih]
    cases mv
    · simp
    · simp [fp_tu2 _ _ h4]
/-- the place of the cell of a layer is the layer's -/
theorem fp_pl_us (kf : Nat → Nat) : ∀ n c r i, fp_ok kf n → c < fp_w kf n → r < fp_h kf n → i < 2 ^ n → fp_pl kf n (fp_us kf n c r i / 2) = (c, r, i, fp_us kf n c r i % 2)
  | 0, c, r, i, _, hc, hr, hi => by
    have h1 : fp_w kf 0 = 8 := by simp [fp_w, fp_pa]
    have h2 : fp_h kf 0 = 8 := by simp [fp_h, fp_pa]
    have h3 : i < 1 := hi
    show ((2 * (8 * r + c)) / 2 % 8, (2 * (8 * r + c)) / 2 / 8, 0, 0) = (c, r, i, (2 * (8 * r + c)) % 2)
    rw [show (2 * (8 * r + c)) / 2 = 8 * r + c by omega, show (8 * r + c) % 8 = c by omega, show (8 * r + c) / 8 = r by omega, show (2 * (8 * r + c)) % 2 = 0 by omega, show i = 0 by omega]
  | n + 1, c, r, i, ok, hc, hr, hi => by
    have hw := fp_w_s ok
    have hh := fp_h_s ok
    have h2 : 2 ^ (n + 1) = 2 * 2 ^ n := by rw [Nat.pow_succ]; omega
    have tu2 : ∀ x, fp_tu x / 2 = x / 2 ∧ fp_tu x % 2 = 1 - x % 2 := by
      intro x
      unfold fp_tu
      split <;> omega
    generalize hfm : decide (kf n % 2 = 0) = fm
    generalize hmv : decide (i < 2 ^ n) = mv
    generalize hc' : (if kf n < 2 then fp_ah c (fp_w kf (n + 1)) fm mv else c) = c'
    generalize hr' : (if kf n < 2 then r else fp_ah r (fp_h kf (n + 1)) fm mv) = r'
    generalize hi' : (if mv = true then 2 ^ n - 1 - i else i - 2 ^ n) = i'
    have bi : i' < 2 ^ n := by
      by_cases z : i < 2 ^ n
      · rw [decide_eq_true z] at hmv; subst hmv
        rw [if_pos rfl] at hi'; omega
      · rw [decide_eq_false z] at hmv; subst hmv
        rw [if_neg (by decide)] at hi'; omega
    have bc : c' < fp_w kf n := by
      by_cases z : kf n < 2
      · rw [if_pos z] at hw hc'
        rw [hw, ← hc']
        exact fp_ah_lt hc
      · rw [if_neg z] at hw hc'
        omega
    have br : r' < fp_h kf n := by
      by_cases z : kf n < 2
      · rw [if_pos z] at hh hr'
        omega
      · rw [if_neg z] at hh hr'
        rw [hh, ← hr']
        exact fp_ah_lt hr
    have ih := fp_pl_us kf n c' r' i' (fp_ok_p ok) bc br bi
    have us : fp_us kf (n + 1) c r i = if mv = true then fp_tu (fp_us kf n c' r' i') else fp_us kf n c' r' i' := by
      rw [← hc', ← hr', ← hi', ← hmv, ← hfm]
      rfl
    have d2 : fp_us kf (n + 1) c r i / 2 = fp_us kf n c' r' i' / 2 := by
      rw [us]
      split
      · exact (tu2 _).1
      · rfl
    rw [d2]
    unfold fp_pl
    dsimp only
    rw [ih]
    dsimp only
    rw [hfm]
    have emv : (decide ((if kf n < 2 then c' else r') < if kf n < 2 then fp_w kf (n + 1) else fp_h kf (n + 1)) == fm) = mv := by
      by_cases z : kf n < 2
      · simp only [z, if_true] at hc' ⊢
        rw [← hc']
        exact (fp_af_ah hc).2.symm
      · simp only [z, if_false] at hr' ⊢
        rw [← hr']
        exact (fp_af_ah hr).2.symm
    rw [emv]
    have e1 : (if kf n < 2 then fp_af c' (if kf n < 2 then fp_w kf (n + 1) else fp_h kf (n + 1)) fm mv else c') = c := by
      by_cases z : kf n < 2
      · simp only [z, if_true] at hc' ⊢
        rw [← hc']
        exact (fp_af_ah hc).1
      · simp only [z, if_false] at hc' ⊢
        exact hc'.symm
    have e2 : (if kf n < 2 then r' else fp_af r' (if kf n < 2 then fp_w kf (n + 1) else fp_h kf (n + 1)) fm mv) = r := by
      by_cases z : kf n < 2
      · simp only [z, if_true] at hr' ⊢
        exact hr'.symm
      · simp only [z, if_false] at hr' ⊢
        rw [← hr']
        exact (fp_af_ah hr).1
    have e3 : (if mv = true then 2 ^ n - 1 - i' else 2 ^ n + i') = i := by
      by_cases z : i < 2 ^ n
      · rw [decide_eq_true z] at hmv; subst hmv
        rw [if_pos rfl] at hi' ⊢; omega
      · rw [decide_eq_false z] at hmv; subst hmv
        rw [if_neg (by decide)] at hi' ⊢; omega
    have e4 : (if mv = true then 1 - fp_us kf n c' r' i' % 2 else fp_us kf n c' r' i' % 2) = fp_us kf (n + 1) c r i % 2 := by
      rw [us]
      cases mv
      · rfl
      · exact (tu2 _).2.symm
    rw [e1, e2, e3, e4]
theorem pu_placeAfter {post : Int32 → Prop} (x half : Nat) (fm mv : Bool) (hx : x < 2 * half) (hh : half ≤ 8) (e : mv = (decide (x < half) == fm)) (h : post (nI (fp_af x half fm mv))) : wp_X0_placeAfter (nI x) (nI half) (bI fm) (bI mv) post := by
  intro P hP
  refine pu_sel (hP _ (pu_sel ?_))
  rw [show (2 : Int32) * nI half = nI (2 * half) from pk_mul 2 half, show nI (2 * half) - (1 : Int32) = nI (2 * half - 1) from pk_sub (b := 1) (by omega), pk_sub (a := 2 * half - 1) (b := x) (by omega), pu_ite]
  have hb : fm = true → half ≤ (if mv = true then 2 * half - 1 - x else x) := by
    intro hf
    subst hf e
    by_cases z : x < half
    · simp [z]; omega
    · simp [z]; omega
  cases fm
  · rw [if_neg (by decide)]
    exact h
  · rw [if_pos rfl, pk_sub (hb rfl)]
    exact h
theorem pu_placeOf {made : Int32} {ks : Nat → Int32} {post : Int32 → Prop} (kf : Nat → Nat) (n : Nat) (ok : fp_ok kf n) (hn : made = nI n) (hk : ∀ i, i < n → ks i = nI (kf i)) (x pt : Nat) (hx : x < 64) (hp : pt < 4)
    (h : post (nI (if pt = 0 then (fp_pl kf n x).1 else if pt = 1 then (fp_pl kf n x).2.1 else if pt = 2 then (fp_pl kf n x).2.2.1 else (fp_pl kf n x).2.2.2))) : wp_X0_placeOf made ks (nI x) (nI pt) post := by
  subst hn
  have hn6 := fp_ok_6 ok
  refine nm_r (e' := nI (x % 8)) (pk_rem (d := 8) (by omega) (by decide) (by decide)) ?_
  refine nm_r (e' := nI (x / 8)) (pk_div (d := 8) (by omega) (by decide) (by decide)) ?_
  intro P hP
  have key : ∀ k j, j + k = n → P (nI (fp_pl kf j x).1) (nI (fp_pl kf j x).2.1) (nI (fp_pl kf j x).2.2.1) (nI (fp_pl kf j x).2.2.2) (nI (fp_w kf j)) (nI (fp_h kf j)) (nI j) := by
    intro k
    induction k with
    | zero =>
      intro j hj
      have : j = n := by omega
      subst this
      apply hP
      refine br_t (nI_le (Nat.le_refl _) (by omega)) ?_
      have ne : ∀ a, a < 4 → ∀ b, b < 4 → a ≠ b → ¬ nI a = nI b := fun a ha b hb q e => q ((nI_eq (by omega) (by omega)).mp e)
      refine ⟨fun z0 => ⟨fun z1 => ⟨fun z2 => ?_, fun z2 => ?_⟩, fun z1 => ?_⟩, fun z0 => ?_⟩
      · have q0 : pt ≠ 0 := fun e => z0 (by rw [e]; rfl)
        have q1 : pt ≠ 1 := fun e => z1 (by rw [e]; rfl)
        have q2 : pt ≠ 2 := fun e => z2 (by rw [e]; rfl)
        rw [if_neg q0, if_neg q1, if_neg q2] at h
        exact h
      · have q2 : pt = 2 := (nI_eq (a := pt) (b := 2) (by omega) (by omega)).mp z2
        subst q2
        exact h
      · have q2 : pt = 1 := (nI_eq (a := pt) (b := 1) (by omega) (by omega)).mp z1
        subst q2
        exact h
      · have q2 : pt = 0 := (nI_eq (a := pt) (b := 0) (by omega) (by omega)).mp z0
        subst q2
        exact h
    | succ k ih =>
      intro j hj
      have okj : fp_ok kf (j + 1) := fp_ok_le n (by omega) ok
      have okj0 := fp_ok_p okj
      have hk4 := okj.1 j (by omega)
      obtain ⟨b1, b2, b3, b4⟩ := fp_pl_b kf j x okj0 hx
      have hw := fp_w_s okj
      have hh := fp_h_s okj
      have hwb := fp_w_b kf _ okj
      have hhb := fp_h_b kf _ okj
      have bwj := fp_w_b kf _ okj0
      have bhj := fp_h_b kf _ okj0
      have hLj := fp_L_b (show j ≤ 6 by omega)
      have ihj := ih (j + 1) (by omega)
      apply hP
      refine br_f (nI_ge (by omega) (by omega)) ?_
      refine pu_kindOf j (by omega) ?_
      rw [hk j (by omega)]
      refine pu_isAcross (kf j) (by omega) ?_
      generalize hac : decide (kf j < 2) = ac
      intro P64 hP64
      generalize hfm : decide (kf j % 2 = 0) = fm
      have sel : ∀ a b : Nat, (if ac = true then nI a else nI b) = nI (if kf j < 2 then a else b) := by
        intro a b
        rw [← hac]
        by_cases z : kf j < 2
        · simp [z]
        · simp [z]
      refine pu_sel (hP64 _ ?_)
      rw [sel]
      generalize hhalf : (if kf j < 2 then fp_w kf (j + 1) else fp_h kf (j + 1)) = half
      have hb : 1 ≤ half ∧ half ≤ 8 := by
        rw [← hhalf]
        split <;> omega
      refine nm_r (e' := nI half) ?_ ?_
      · rw [show nI (if kf j < 2 then fp_w kf j else fp_h kf j) / (2 : Int32) = nI ((if kf j < 2 then fp_w kf j else fp_h kf j) / 2) from pk_div (d := 2) (by split <;> omega) (by decide) (by decide)]
        congr 1
        rw [← hhalf]
        by_cases z : kf j < 2
        · simp only [z, if_true] at hw ⊢
          omega
        · simp only [z, if_false] at hh ⊢
          omega
      refine pu_movesFirstHalf (kf j) (by omega) ?_
      rw [hfm]
      intro P86 hP86
      refine pu_sel (hP86 _ ?_)
      rw [sel]
      intro P96 hP96
      generalize hcr : (if kf j < 2 then (fp_pl kf j x).1 else (fp_pl kf j x).2.1) = cr
      have hcrb : cr < 2 * half := by
        rw [← hcr, ← hhalf]
        by_cases z : kf j < 2
        · simp only [z, if_true] at hw ⊢
          omega
        · simp only [z, if_false] at hh ⊢
          omega
      have isf : P96 (bI (decide (cr < half))) → (nI half ≤ nI cr → P96 (0 : Int32)) ∧ (¬ nI half ≤ nI cr → P96 (1 : Int32)) := by
        intro q
        refine pk_le half cr (fun z => ?_) (fun z => ?_)
        · rw [decide_eq_false (by omega)] at q; exact q
        · rw [decide_eq_true z] at q; exact q
      refine isf (hP96 _ ?_)
      generalize hmv : (decide (cr < half) == fm) = mv
      intro P110 hP110
      have mvq : P110 (bI mv) → (¬ bI (decide (cr < half)) = bI fm → P110 (0 : Int32)) ∧ (bI (decide (cr < half)) = bI fm → P110 (1 : Int32)) := by
        intro q
        rw [← hmv] at q
        generalize decide (cr < half) = b1 at q ⊢
        cases b1 <;> cases fm
        · exact ⟨fun z => absurd rfl z, fun _ => q⟩
        · exact ⟨fun _ => q, fun z => absurd z (by decide)⟩
        · exact ⟨fun _ => q, fun z => absurd z (by decide)⟩
        · exact ⟨fun z => absurd rfl z, fun _ => q⟩
      refine mvq (hP110 _ ?_)
      intro P152 hP152
      have e1 : (fp_pl kf (j + 1) x) = (if kf j < 2 then fp_af (fp_pl kf j x).1 half fm mv else (fp_pl kf j x).1, if kf j < 2 then (fp_pl kf j x).2.1 else fp_af (fp_pl kf j x).2.1 half fm mv, if mv then 2 ^ j - 1 - (fp_pl kf j x).2.2.1 else 2 ^ j + (fp_pl kf j x).2.2.1, if mv then 1 - (fp_pl kf j x).2.2.2 else (fp_pl kf j x).2.2.2) := by
        rw [← hmv, ← hcr, ← hhalf, ← hfm]
        rfl
      rw [e1] at ihj
      dsimp only at ihj
      have fin : P152 (nI (if kf j < 2 then fp_af (fp_pl kf j x).1 half fm mv else (fp_pl kf j x).1)) (nI (if kf j < 2 then (fp_pl kf j x).2.1 else fp_af (fp_pl kf j x).2.1 half fm mv)) (nI (fp_w kf (j + 1))) (nI (fp_h kf (j + 1))) := by
        apply hP152
        refine nm_r (e' := nI (2 ^ j)) ((by decide +kernel : ∀ a, a ≤ 6 → (1 : Int32) <<< (nI a &&& (31 : Int32)) = nI (2 ^ a)) _ (by omega)) ?_
        intro P178 hP178
        refine pu_sel (hP178 _ ?_)
        intro P194 hP194
        refine pu_sel (hP194 _ ?_)
        have ei : (if mv = true then nI (2 ^ j) - (1 : Int32) - nI (fp_pl kf j x).2.2.1 else nI (2 ^ j) + nI (fp_pl kf j x).2.2.1) = nI (if mv = true then 2 ^ j - 1 - (fp_pl kf j x).2.2.1 else 2 ^ j + (fp_pl kf j x).2.2.1) := by
          rw [← pu_ite, show nI (2 ^ j) - (1 : Int32) = nI (2 ^ j - 1) from pk_sub (b := 1) (by omega), pk_sub (by omega), nI_add]
        have eu : (if mv = true then (1 : Int32) - nI (fp_pl kf j x).2.2.2 else nI (fp_pl kf j x).2.2.2) = nI (if mv = true then 1 - (fp_pl kf j x).2.2.2 else (fp_pl kf j x).2.2.2) := by
          rw [← pu_ite]
          split
          · exact pk_sub (a := 1) b4
          · rfl
        rw [ei, eu, pu_i1]
        exact ihj
      cases ac
      · have zz : ¬ kf j < 2 := of_decide_eq_false hac
        simp only [zz, if_false] at hw hh hcr hhalf fin
        subst hcr
        refine br_t rfl (pu_placeAfter _ half fm mv hcrb hb.2 hmv.symm ?_)
        rw [hw]
        rw [hhalf] at fin
        exact fin
      · have zz : kf j < 2 := of_decide_eq_true hac
        simp only [zz, if_true] at hw hh hcr hhalf fin
        subst hcr
        refine br_f (by decide) (pu_placeAfter _ half fm mv hcrb hb.2 hmv.symm ?_)
        rw [hh]
        rw [hhalf] at fin
        exact fin
  have k0 := key n 0 (by omega)
  rw [show fp_w kf 0 = 8 by simp [fp_w, fp_pa], show fp_h kf 0 = 8 by simp [fp_h, fp_pa]] at k0
  exact k0
