/-! the best folds: the class's trial -/
theorem nI_lt' {a b : Nat} (h : a < b) (hb : b < 2 ^ 31) : nI a < nI b := by
  rw [Int32.lt_iff_toInt_lt, nI_toInt (by omega), nI_toInt hb]
  omega
theorem nI_nlt' {a b : Nat} (h : b ≤ a) (ha : a < 2 ^ 31) : ¬ nI a < nI b := by
  rw [Int32.lt_iff_toInt_lt, nI_toInt ha, nI_toInt (by omega)]
  omega
theorem pu_foldAnew {made mac : Int32} {ks : Nat → Int32} {post : Int32 → Int32 → (Nat → Int32) → Prop} (a b : Nat) (ha : a ≤ 3) (hb : b ≤ 3)
    (h : ∀ ks' : Nat → Int32, (∀ i, i < a + b → ks' i = nI (kC a i)) → post (nI (a + b)) (nI a) ks') : wp_X0_foldAnew made mac ks (nI a) (nI b) post := by
  unfold wp_X0_foldAnew wp_X0_takeAllBack
  intro P hP
  have key : ∀ d j (ks' : Nat → Int32), j + d = a → (∀ i, i < j → ks' i = nI (kC a i)) → P (nI j) (nI j) (nI j) ks' := by
    intro d
    induction d with
    | zero =>
      intro j ks' hj hk
      have : j = a := by omega
      subst this
      refine hP _ _ _ _ (br_t (nI_le (Nat.le_refl _) (by omega)) ?_)
      intro Q hQ
      have key2 : ∀ e c (ks'' : Nat → Int32), c + e = b → (∀ i, i < j + c → ks'' i = nI (kC j i)) → Q (nI c) (nI (j + c)) (nI j) ks'' := by
        intro e
        induction e with
        | zero =>
          intro c ks'' hc hk'
          have : c = b := by omega
          subst this
          exact hQ _ _ _ _ (br_t (nI_le (Nat.le_refl _) (by omega)) (h ks'' hk'))
        | succ e ih =>
          intro c ks'' hc hk'
          refine hQ _ _ _ _ (br_f (nI_ge (by omega) (by omega)) ?_)
          refine pu_addFold (j + c) j 3 (by omega) (by omega) rfl rfl ?_
          rw [pu_i1]
          refine ih (c + 1) _ (by omega) (fun i hi => ?_)
          rw [pu_upd]
          by_cases z : i = j + c
          · rw [if_pos z, z]
            unfold kC
            rw [if_neg (by omega)]
          · rw [if_neg z]
            exact hk' i (by omega)
      exact key2 b 0 ks' (by omega) (fun i hi => hk i (by omega))
    | succ d ih =>
      intro j ks' hj hk
      refine hP _ _ _ _ (br_f (nI_ge (by omega) (by omega)) ?_)
      refine pu_addFold j j 1 (by omega) (by omega) rfl rfl ?_
      rw [pu_i1]
      refine ih (j + 1) _ (by omega) (fun i hi => ?_)
      rw [pu_upd]
      by_cases z : i = j
      · rw [if_pos z, z]
        unfold kC
        rw [if_pos (by omega)]
      · rw [if_neg z]
        exact hk i (by omega)
  exact key a 0 ks (by omega) (fun i hi => absurd hi (by omega))
/-- what a trial answers -/
def bV (g : Nat → Bool) (a b : Nat) : Int32 := if a ≤ 3 ∧ b ≤ 3 then pW (kC a) (a + b) g else -6
theorem pu_trial {goal : Int64} {tmade tmac : Int32} {tks : Nat → Int32} {post : Int32 → Int32 → Int32 → (Nat → Int32) → Prop} (g : Nat → Bool) (hg : ∀ y, y < 64 → ib goal y = g y) (a b : Nat) (ha : a ≤ 6) (hb : b ≤ 6)
    (h : ∀ m c k, post (bV g a b) m c k) : wp_X5_punchesOfTrial goal tmade tmac tks (nI a) (nI b) post := by
  intro P hP
  have bad : ¬ (a ≤ 3 ∧ b ≤ 3) → P := fun z => hP (by
    have := h tmade tmac tks
    unfold bV at this
    rw [if_neg z] at this
    exact this)
  by_cases z : a ≤ 3
  · refine br_f (nI_nlt' (a := 3) (b := a) (by omega) (by omega)) ?_
    by_cases z2 : b ≤ 3
    · refine br_t (nI_le (a := b) (b := 3) z2 (by omega)) ?_
      refine pu_foldAnew a b z z2 (fun ks' hk => ?_)
      have e := kC_pa a (a + b)
      refine pu_punchesFor (kC a) (a + b) (kC_ok z z2) rfl (by rw [e]; congr 1; split <;> omega) hk g hg ?_
      have := h (nI (a + b)) (nI a) ks'
      unfold bV at this
      rw [if_pos ⟨z, z2⟩] at this
      exact this
    · exact br_f (nI_ge (b := b) (a := 3) (by omega) (by omega)) (bad (by omega))
  · exact br_t (nI_lt' (a := 3) (b := a) (by omega) (by omega)) (bad (by omega))
theorem pW_rng {kf : Nat → Nat} {n : Nat} {g : Nat → Bool} : pW kf n g = -6 ∨ ∃ k : Nat, k ≤ 64 ∧ pW kf n g = nI k := by
  unfold pW
  split
  · refine Or.inr ⟨_, ?_, rfl⟩
    have := ct_le g 64
    exact Nat.le_trans (Nat.div_le_self _ _) this
  · exact Or.inl rfl
theorem bV_rng {g : Nat → Bool} {a b : Nat} : bV g a b = -6 ∨ ∃ k : Nat, k ≤ 64 ∧ bV g a b = nI k := by
  unfold bV
  split
  · exact pW_rng
  · exact Or.inl rfl
def stC (s : Int32 × Int32) (r c : Int32) : Int32 × Int32 := if r = -6 then s else if s.2 ≤ r then s else (c, r)
def stM (s : Int32 × Int32) (r c : Int32) : Int32 × Int32 := if r = -6 then s else if s.1 = -6 then (c, r) else if s.2 ≤ r then s else (c, r)
def sqC (g : Nat → Bool) (F : Nat) : Nat → Int32 × Int32 → Int32 × Int32
  | 0, s => s
  | a + 1, s => stC (sqC g F a s) (bV g a (F - a)) (nI (10 * a + F - a))
def sqM (g : Nat → Bool) (F : Nat) : Nat → Int32 × Int32 → Int32 × Int32
  | 0, s => s
  | a + 1, s => stM (sqM g F a s) (bV g a (F - a)) (nI (10 * a + F - a))
def alC (g : Nat → Bool) : Nat → Int32 × Int32
  | 0 => (0, 65)
  | F + 1 => sqC g F (F + 1) (alC g F)
def alM (g : Nat → Bool) : Nat → Int32 × Int32
  | 0 => (-6, 0)
  | F + 1 => sqM g F (F + 1) (alM g F)
theorem st_eq {s : Int32 × Int32} (h : s.1 ≠ -6) (r : Int32) (c : Nat) (hc : c < 2 ^ 30) : stC s r (nI c) = stM s r (nI c) ∧ (stC s r (nI c)).1 ≠ -6 := by
  unfold stC stM
  by_cases z : r = -6
  · rw [if_pos z, if_pos z]; exact ⟨rfl, h⟩
  · rw [if_neg z, if_neg z, if_neg h]
    refine ⟨rfl, ?_⟩
    split
    · exact h
    · exact fun q => pm_ne6 (q := c) (by omega) q
theorem sq_eq {s : Int32 × Int32} (h : s.1 ≠ -6) (g : Nat → Bool) (F : Nat) (hF : F ≤ 6) : ∀ a, a ≤ 7 → sqC g F a s = sqM g F a s ∧ (sqC g F a s).1 ≠ -6
  | 0, _ => ⟨rfl, h⟩
  | a + 1, ha => by
    obtain ⟨e, n⟩ := sq_eq h g F hF a (by omega)
    show stC (sqC g F a s) _ _ = stM (sqM g F a s) _ _ ∧ (stC (sqC g F a s) _ _).1 ≠ -6
    rw [← e]
    exact st_eq n _ _ (by omega)
theorem al_1 (g : Nat → Bool) : alC g 1 = alM g 1 ∧ (alC g 1).1 ≠ -6 := by
  show stC (0, 65) (bV g 0 0) (nI 0) = stM (-6, 0) (bV g 0 0) (nI 0) ∧ (stC (0, 65) (bV g 0 0) (nI 0)).1 ≠ -6
  have e : ∃ k : Nat, k ≤ 64 ∧ bV g 0 0 = nI k := by
    refine ⟨ct g 64 / 2 ^ 0, Nat.le_trans (Nat.div_le_self _ _) (ct_le g 64), ?_⟩
    unfold bV pW
    rw [if_pos (by omega)]
    refine if_pos (fun x hx y hy s => ?_)
    have s1 : x % 8 = y % 8 := s.1
    have s2 : x / 8 = y / 8 := s.2
    rw [show x = y by omega]
  obtain ⟨k, hk, e⟩ := e
  rw [e]
  unfold stC stM
  rw [if_neg (pm_ne6 (by omega)), if_neg (show ¬ ((0 : Int32), (65 : Int32)).snd ≤ nI k from nI_ge (b := 65) (a := k) (by omega) (by omega)), if_neg (pm_ne6 (by omega)), if_pos (show ((-6 : Int32), (0 : Int32)).fst = -6 from rfl)]
  exact ⟨rfl, pm_ne6 (q := 0) (by omega)⟩
theorem al_eq (g : Nat → Bool) : ∀ F, F ≤ 6 → alC g (F + 1) = alM g (F + 1) ∧ (alC g (F + 1)).1 ≠ -6
  | 0, _ => al_1 g
  | F + 1, h => by
    obtain ⟨e, n⟩ := al_eq g F (by omega)
    show sqC g (F + 1) (F + 2) (alC g (F + 1)) = sqM g (F + 1) (F + 2) (alM g (F + 1)) ∧ _
    rw [← e]
    exact sq_eq n g (F + 1) h (F + 2) (by omega)
