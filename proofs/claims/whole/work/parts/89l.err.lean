/-! the works of a text, one behind the other -/
theorem rd_pos (tl : Nat) (tx : Nat → Nat) (i : Nat) : ((rd tl tx i).1 = 1 ∧ i < (rd tl tx i).2.1 ∧ (rd tl tx i).2.1 ≤ tl) ∨ ((rd tl tx i).1 = 0 ∧ (rd tl tx i).2.1 ≤ i + 4) := by
  unfold rd
  by_cases z : i < tl
  · rw [if_pos z]
    by_cases a : tx i = 76 ∨ tx i = 82 ∨ tx i = 84 ∨ tx i = 66 ∨ tx i = 85
    · rw [if_pos a]
      exact Or.inl ⟨rfl, Nat.lt_succ_self i, z⟩
    · rw [if_neg a]
      by_cases b : tx i = 80 ∨ tx i = 73
      · rw [if_pos b]
        by_cases c : tD tl tx (i + 1) 0 7
        · rw [if_pos c]
          by_cases d : tD tl tx (i + 2) 0 7
          · rw [if_pos d]
            have d1 := d.1
            by_cases e : tx i = 80
            · rw [if_pos e]
              by_cases f : i + 3 < tl ∧ tx (i + 3) = 58
              · rw [if_pos f]
                by_cases g : tD tl tx (i + 4) 1 9
                · rw [if_pos g]
                  have g1 := g.1
                  by_cases h : tD tl tx (i + 5) 0 9 ∧ 10 * (tx (i + 4) - 48) + (tx (i + 5) - 48) ≤ 64
                  · rw [if_pos h]
                    have h1 := h.1.1
                    exact Or.inl ⟨rfl, show i < i + 6 by omega, show i + 6 ≤ tl by omega⟩
                  · rw [if_neg h]
                    exact Or.inl ⟨rfl, show i < i + 5 by omega, show i + 5 ≤ tl by omega⟩
                · rw [if_neg g]
                  exact Or.inr ⟨rfl, show i + 4 ≤ i + 4 by omega⟩
              · rw [if_neg f]
                exact Or.inl ⟨rfl, show i < i + 3 by omega, show i + 3 ≤ tl by omega⟩
            · rw [if_neg e]
              by_cases f : tD tl tx (i + 3) 1 5
              · rw [if_pos f]
                have f1 := f.1
                exact Or.inl ⟨rfl, show i < i + 4 by omega, show i + 4 ≤ tl by omega⟩
              · rw [if_neg f]
                exact Or.inr ⟨rfl, show i + 3 ≤ i + 4 by omega⟩
          · rw [if_neg d]
            exact Or.inr ⟨rfl, show i + 2 ≤ i + 4 by omega⟩
        · rw [if_neg c]
          exact Or.inr ⟨rfl, show i + 1 ≤ i + 4 by omega⟩
      · rw [if_neg b]
        exact Or.inr ⟨rfl, show i ≤ i + 4 by omega⟩
  · rw [if_neg z]
    exact Or.inr ⟨rfl, show i ≤ i + 4 by omega⟩
/-- where the work n begins -/
def tp (tl : Nat) (tx : Nat → Nat) : Nat → Nat
  | 0 => 0
  | n + 1 => (rd tl tx (tp tl tx n)).2.1
/-- the work n can be read -/
def tk (tl : Nat) (tx : Nat → Nat) (n : Nat) : Prop := (rd tl tx (tp tl tx n)).1 = 1
/-- the works 0 to M are the ones that are read -/
def tM (tl : Nat) (tx : Nat → Nat) (M : Nat) : Prop := M < 60 ∧ (∀ j, j < M → tk tl tx j ∧ tp tl tx (j + 1) < tl) ∧ ¬ (tk tl tx M ∧ tp tl tx (M + 1) < tl)
theorem tp_ge {tl : Nat} {tx : Nat → Nat} : ∀ n, (∀ j, j < n → tk tl tx j) → n ≤ tp tl tx n
  | 0, _ => Nat.zero_le _
  | n + 1, h => by
    have a := tp_ge n (fun j hj => h j (by omega))
    have b := h n (by omega)
    rcases rd_pos tl tx (tp tl tx n) with c | c
    · show n + 1 ≤ (rd tl tx (tp tl tx n)).2.1
      omega
    · exact absurd (b.symm.trans c.1) (by decide)
theorem tM_ex {tl : Nat} {tx : Nat → Nat} (h60 : tl ≤ 60) : ∃ M, tM tl tx M := by
  have ex : ∃ n, ¬ (tk tl tx n ∧ tp tl tx (n + 1) < tl) := Classical.byContradiction (fun q => by
    have al : ∀ n, tk tl tx n ∧ tp tl tx (n + 1) < tl := fun n => Classical.byContradiction (fun y => q ⟨n, y⟩)
    have a := tp_ge (tl := tl) (tx := tx) 61 (fun j _ => (al j).1)
    have b : tp tl tx 61 < tl := (al 60).2
    omega)
  obtain ⟨n, hn⟩ := ex
  obtain ⟨M, _, h1, h2⟩ := min_ex (fun n => ¬ (tk tl tx n ∧ tp tl tx (n + 1) < tl)) n hn
  have h3 : ∀ j, j < M → tk tl tx j ∧ tp tl tx (j + 1) < tl := fun j hj => Classical.byContradiction (fun y => h2 j hj y)
  refine ⟨M, ?_, h3, h1⟩
  have a := tp_ge (tl := tl) (tx := tx) M (fun j hj => (h3 j hj).1)
  cases M with
  | zero => omega
  | succ M =>
    have b := (h3 M (by omega)).2
    omega
theorem tM_b {tl : Nat} {tx : Nat → Nat} {M : Nat} (h60 : tl ≤ 60) (h : tM tl tx M) {n : Nat} (hn : n ≤ M) : tp tl tx n < 61 ∧ tp tl tx (n + 1) < 100 := by
  have a : tp tl tx n ≤ 60 := by
    cases n with
    | zero => exact Nat.zero_le _
    | succ n =>
      have := (h.2.1 n (by omega)).2
      omega
  refine ⟨by omega, ?_⟩
  rcases rd_pos tl tx (tp tl tx n) with c | c
  · show (rd tl tx (tp tl tx n)).2.1 < 100
    omega
  · show (rd tl tx (tp tl tx n)).2.1 < 100
    omega
theorem tk_1 {tl : Nat} {tx : Nat → Nat} {n : Nat} (h : tk tl tx n) : (rd tl tx (tp tl tx n)).1 = 1 := h
theorem tk_0 {tl : Nat} {tx : Nat → Nat} {n : Nat} (h : ¬ tk tl tx n) : (rd tl tx (tp tl tx n)).1 = 0 := by
  rcases rd_pos tl tx (tp tl tx n) with c | c
  · exact absurd c.1 h
  · exact c.1
/-- the end of a text: all signs are read -/
theorem tM_end {tl : Nat} {tx : Nat → Nat} {M : Nat} (h : tM tl tx M) (hk : tk tl tx M) : tp tl tx (M + 1) = tl := by
  have a : ¬ tp tl tx (M + 1) < tl := fun q => h.2.2 ⟨hk, q⟩
  rcases rd_pos tl tx (tp tl tx M) with c | c
  · have b : tp tl tx (M + 1) ≤ tl := c.2.2
    omega
  · exact absurd (hk.symm.trans c.1) (by decide)
theorem pu_firstError {wlen wpos wlet wcol wrow wnum : Int32} {chs : Nat → Int32} {post : Int32 → Int32 → Int32 → Int32 → Int32 → Int32 → Prop} {tl : Nat} {tx : Nat → Nat} (hT : tC tl tx wlen chs) (M : Nat) (hM : tM tl tx M)
    (hbad : ¬ tk tl tx M → ∀ lt cl rw nm, post (nI (tp tl tx (M + 1))) (nI (tp tl tx (M + 1))) lt cl rw nm) (hok : tk tl tx M → ∀ lt cl rw nm, post (-6) (nI (tp tl tx (M + 1))) lt cl rw nm) : wp_X4_firstError wlen wpos wlet wcol wrow wnum chs post := by
  have hT0 := hT
  obtain ⟨h60, hl, hc, hb⟩ := hT
  subst hl
  refine pu_readWork hT0 0 (by omega) (fun lt cl rw nm _ => ?_)
  intro P12 h12
  have key : ∀ d n lt cl rw nm, n + d = M → P12 (nI (rd tl tx (tp tl tx n)).1) (nI (n + 1)) (nI (tp tl tx (n + 1))) lt cl rw nm := by
    intro d
    induction d with
    | zero =>
      intro n lt cl rw nm hn
      have : n = M := by omega
      subst this
      have tb := tM_b h60 hM (Nat.le_refl n)
      refine h12 _ _ _ _ _ _ _ ?_
      intro P44 h44
      by_cases hk : tk tl tx n
      · have g : P44 := h44 ⟨fun q => absurd q (by rw [tk_1 hk]; decide), fun _ => hok hk _ _ _ _⟩
        refine ⟨fun _ => g, fun _ => ⟨fun _ => g, fun _ => ⟨fun _ => g, fun q => ?_⟩⟩⟩
        exact absurd (nI_le (a := tl) (b := tp tl tx (n + 1)) (by rw [tM_end hM hk]; exact Nat.le_refl _) (by omega)) q
      · have g : P44 := h44 ⟨fun _ => hbad hk _ _ _ _, fun q => absurd (by rw [tk_0 hk]; rfl) q⟩
        exact ⟨fun _ => g, fun _ => ⟨fun _ => g, fun q => absurd (by rw [tk_0 hk]; rfl) q⟩⟩
    | succ d ih =>
      intro n lt cl rw nm hn
      have hM60 := hM.1
      have gn := hM.2.1 n (by omega)
      have tb := tM_b h60 hM (show n ≤ M by omega)
      refine h12 _ _ _ _ _ _ _ ?_
      intro P44 h44
      refine br_f (nI_ge (a := n + 1) (b := 60) (by omega) (by omega)) ⟨fun q => absurd q (by rw [tk_1 gn.1]; decide), fun _ => ?_⟩
      refine br_f (nI_ge gn.2 (by omega)) ?_
      refine pu_readWork hT0 (tp tl tx (n + 1)) (by omega) (fun lt cl rw nm _ => ?_)
      rw [pu_i1]
      exact ih (n + 1) lt cl rw nm (by omega)
  exact key M 0 lt cl rw nm (by omega)
theorem pm_errorPosition {typed toldMany spot wrong : Int32} {buf told : Nat → Int32} {post : Int32 → Int32 → Int32 → Int32 → (Nat → Int32) → Prop} {tl : Nat} {tx : Nat → Nat} (hT : tC tl tx typed buf) (M : Nat) (hM : tM tl tx M)
    (hbad : ¬ tk tl tx M → ∀ tm sp told', post (nI (tp tl tx (M + 1))) tm sp (nI (tp tl tx (M + 1))) told') (hok : tk tl tx M → ∀ sp told', (∀ m, m ≤ M → tT told' m (rd tl tx (tp tl tx m))) → post (-6) (nI (M + 1)) sp (-6) told') : wp_X6_errorPosition typed toldMany spot wrong buf told post := by
  have hT0 := hT
  obtain ⟨h60, hl, hc, hb⟩ := hT
  subst hl
  refine pm_readWork hT0 0 0 (by omega) (by omega) (fun told2 r1 r2 r3 => ?_) (fun r0 sp td => ?_)
  · intro P20 h20
    have bad : ¬ tk tl tx M → ∀ tm sp td, P20 tm sp (nI (tp tl tx (M + 1))) td := fun hk tm sp td => by
      have tb := tM_b h60 hM (Nat.le_refl M)
      refine h20 _ _ _ _ ?_
      intro P47 h47
      exact ⟨fun _ => h47 (hbad hk _ _ _), fun q => absurd q (pm_ne6 (by omega))⟩
    have key : ∀ d n td, n + d = M → tk tl tx n → (∀ m, m ≤ n → tT td m (rd tl tx (tp tl tx m))) → P20 (nI (n + 1)) (nI (tp tl tx (n + 1))) (-6) td := by
      intro d
      induction d with
      | zero =>
        intro n td hn hk hq
        have : n = M := by omega
        subst this
        have tb := tM_b h60 hM (Nat.le_refl n)
        refine h20 _ _ _ _ ?_
        intro P47 h47
        refine ⟨fun q => absurd rfl q, fun _ => ⟨fun _ => h47 (hok hk _ _ hq), fun q => ?_⟩⟩
        exact absurd (nI_le (a := tl) (b := tp tl tx (n + 1)) (by rw [tM_end hM hk]; exact Nat.le_refl _) (by omega)) q
      | succ d ih =>
        intro n td hn hk hq
        have hM60 := hM.1
        have gn := hM.2.1 n (by omega)
        have tb := tM_b h60 hM (show n ≤ M by omega)
        refine h20 _ _ _ _ ?_
        intro P47 h47
        refine ⟨fun q => absurd rfl q, fun _ => ?_⟩
        refine br_f (nI_ge (b := tl) (a := tp tl tx (n + 1)) gn.2 (by omega)) ?_
        refine pm_readWork hT0 (tp tl tx (n + 1)) (n + 1) (by omega) (by omega) (fun td2 r1 r2 r3 => ?_) (fun r0 sp td2 => ?_)
        · refine ih (n + 1) td2 (by omega) r1 (fun m hm => ?_)
          by_cases y : m = n + 1
          · rw [y]; exact r2
          · have a := hq m (by omega)
            exact ⟨by rw [r3 _ (by omega)]; exact a.1, fun z => by rw [r3 _ (by omega), r3 _ (by omega), r3 _ (by omega)]; exact a.2 z⟩
        · have e : M = n + 1 := Classical.byContradiction (fun q => absurd (r0.symm.trans (hM.2.1 (n + 1) (by omega)).1) (by decide))
          have g := bad (fun q => by rw [e] at q; exact absurd (r0.symm.trans q) (by decide)) (nI (n + 1 + 1)) sp td2
          rw [e] at g
          exact g
    refine key M 0 told2 (by omega) r1 (fun m hm => ?_)
    have e : m = 0 := by omega
    rw [e]
    exact r2
  · intro P20 h20
    have e : M = 0 := Classical.byContradiction (fun q => absurd (r0.symm.trans (hM.2.1 0 (by omega)).1) (by decide))
    subst e
    have tb := tM_b h60 hM (Nat.le_refl 0)
    refine h20 _ _ _ _ ?_
    intro P47 h47
    exact ⟨fun _ => h47 (hbad (fun q => absurd (r0.symm.trans q) (by decide)) _ _ _), fun q => absurd q (pm_ne6 (show tp tl tx (0 + 1) < 2 ^ 31 by omega))⟩
theorem gop_errorPosition : gOp_errorPosition gR := by
  intro isSaved npat ngoal ncol nmade nmac nks spat sgoal scol smade smac sks hkept hks hmade hmac hcol hpat hgoal tmade tmac tks wlen wpos wlet wcol wrow wnum chs pastMany isKept typed wid hei toldMany spot wrong zz past kz buf stk laid pcs told hR
  obtain ⟨p, sp, ik, k, hp, tl, tx, hk, hC, hS, ei, ek, hH, hT, hM, hKz, eik, ekm, hPH, eT⟩ := hR
  have hTb : tC tl tx typed buf := ⟨hT.1, eT.1, eT.2, hT.2.2.2⟩
  obtain ⟨M, tm⟩ := tM_ex (tl := tl) (tx := tx) hT.1
  refine pu_firstError hT M tm (fun z lt cl rw nm => ?_) (fun z lt cl rw nm => ?_)
  · exact pm_errorPosition hTb M tm (fun _ _ _ _ => ⟨rfl, ⟨p, sp, ik, k, hp, tl, tx, hk, hC, hS, ei, ek, hH, hT, hM, hKz, eik, ekm, hPH, eT⟩⟩) (fun y => absurd y z)
  · exact pm_errorPosition hTb M tm (fun y => absurd z y) (fun _ _ _ _ => ⟨rfl, ⟨p, sp, ik, k, hp, tl, tx, hk, hC, hS, ei, ek, hH, hT, hM, hKz, eik, ekm, hPH, eT⟩⟩)
