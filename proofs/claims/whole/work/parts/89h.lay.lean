/-! the reference's labels: until nothing changes -/
def agR (f : Nat → Bool) (m : Nat → Nat) (a : Nat) : Prop := a % 8 ≠ 7 → f a = true → f (a + 1) = true → m a = m (a + 1)
def agD (f : Nat → Bool) (m : Nat → Nat) (a : Nat) : Prop := a < 56 → f a = true → f (a + 8) = true → m a = m (a + 8)
theorem agree_Lb {f : Nat → Bool} {pcs : Nat → Int32} {m : Nat → Nat} (hI : pI f pcs m) (h : ∀ a, a < 64 → agR f m a ∧ agD f m a) : Lb f m := by
  refine ⟨fun x hx fx => ⟨(hI.2 x hx).1, (hI.2 x hx).2 fx⟩, fun a b ha hb fa fb e => ?_⟩
  unfold adj at e
  rcases e with ⟨e, q⟩ | ⟨e, q⟩ | e | e
  · subst e; exact (h a ha).1 q fa fb
  · subst e; exact ((h b hb).1 q fb fa).symm
  · subst e; exact (h a ha).2 (by omega) fa fb
  · subst e; exact ((h b hb).2 (by omega) fb fa).symm
/-- within a pass over the cells: nothing changed so far and all agree so far, or the sum fell -/
def pS (f : Nat → Bool) (m0 : Nat → Nat) (c : Int32) (m : Nat → Nat) (D : Nat → Prop) (E : Nat → Prop) : Prop :=
  (c = 0 ∧ m = m0 ∧ (∀ a, D a → agR f m0 a) ∧ ∀ a, E a → agD f m0 a) ∨ (c = 1 ∧ smN m 64 < smN m0 64)
theorem pm_layPieces {zz pcs : Nat → Int32} {post : (Nat → Int32) → Prop} (f : Nat → Bool) (hz : ∀ i, i < 64 → (zz (7 + i) = 0 ↔ f i = true))
    (h : ∀ pcs' m, pI f pcs' m → Lb f m → post pcs') : wp_X6_layPieces zz pcs post := by
  intro P hP
  have main : ∀ pcs' : Nat → Int32, (∀ x, x < 64 → pcs' x = nI x) → P (nI 64) pcs' := fun pcs' h' => by
    refine hP _ _ (br_t (nI_le (a := 64) (b := 64) (Nat.le_refl _) (by omega)) ?_)
    intro P23 h23
    have pass : ∀ N pcs' m, pI f pcs' m → smN m 64 ≤ N → P23 (1 : Int32) pcs' := by
      intro N
      induction N using Nat.strongRecOn with
      | ind N ih =>
        intro pcs0 m0 hI0 hN
        refine h23 _ _ ⟨fun q => absurd q (by decide), fun _ => ?_⟩
        intro P31 h31
        have key : ∀ d i c pcs' m, i + d = 64 → pI f pcs' m → pS f m0 c m (fun a => a < i) (fun a => a < i) → P31 c (nI i) pcs' := by
          intro d
          induction d with
          | zero =>
            intro i c pcs' m hi hI hs
            have : i = 64 := by omega
            subst this
            refine h31 _ _ _ (br_t (nI_le (a := 64) (b := 64) (Nat.le_refl _) (by omega)) ?_)
            rcases hs with ⟨ec, em, h1, h2⟩ | ⟨ec, hl⟩
            · subst ec em
              exact h23 _ _ ⟨fun _ => h _ _ hI (agree_Lb hI (fun a ha => ⟨h1 a ha, h2 a ha⟩)), fun q => absurd rfl q⟩
            · subst ec
              exact ih (smN m 64) (by omega) _ _ hI (Nat.le_refl _)
          | succ d ihd =>
            intro i c pcs' m hi hI hs
            refine h31 _ _ _ (br_f (nI_ge (a := i) (b := 64) (by omega) (by omega)) ?_)
            intro P66 h66
            have n66 : ∀ t pcs'' m', pI f pcs'' m' → pS f m0 t m' (fun a => a < i + 1) (fun a => a < i) → P66 t pcs'' := fun t pcs'' m' hI' hs' => by
              refine h66 _ _ ?_
              intro P94 h94
              have n94 : ∀ t pcs3 m3, pI f pcs3 m3 → pS f m0 t m3 (fun a => a < i + 1) (fun a => a < i + 1) → P94 t pcs3 := fun t pcs3 m3 hI3 hs3 => by
                refine h94 _ _ ?_
                rw [pu_i1]
                exact ihd (i + 1) t pcs3 m3 (by omega) hI3 hs3
              intro P89 h89
              have n89 : ∀ pcs3 m3, pI f pcs3 m3 → smN m3 64 < smN m0 64 → P89 pcs3 := fun pcs3 m3 hI3 hl => h89 _ (n94 1 pcs3 m3 hI3 (Or.inr ⟨rfl, hl⟩))
              intro P85 h85
              have n85 : (agD f m' i) → P85 pcs'' := fun ag => by
                refine h85 _ ?_
                rcases hs' with ⟨ec, em, h1, h2⟩ | ⟨ec, hl⟩
                · subst em
                  refine ⟨fun _ => n94 0 pcs'' m' hI' (Or.inl ⟨rfl, rfl, h1, fun a ha => ?_⟩), fun q => absurd ec q⟩
                  by_cases z : a = i
                  · rw [z]; exact ag
                  · exact h2 a (show a < i by have : a < i + 1 := ha; omega)
                · exact ⟨fun q => absurd (ec.symm.trans q) (by decide), fun _ => n89 pcs'' m' hI' hl⟩
              have low : smN m' 64 ≤ smN m0 64 := by
                rcases hs' with ⟨_, em, _, _⟩ | ⟨_, hl⟩
                · rw [em]; exact Nat.le_refl _
                · omega
              by_cases z : 56 ≤ i
              · exact br_t (nI_le (a := 56) (b := i) z (by omega)) (n85 (fun q => absurd q (by omega)))
              · refine br_f (nI_ge (a := i) (b := 56) (by omega) (by omega)) ?_
                rw [show nI i + (8 : Int32) = nI (i + 8) from nI_add i 8]
                refine pm_joins f hz m' hI' i (i + 8) (by omega) (by omega) (Or.inr (Or.inr (Or.inl rfl))) (fun q => ⟨fun y => absurd rfl y, fun _ => n85 (fun _ => q)⟩) (fun m3 pcs3 hI3 hl => ⟨fun _ => n89 pcs3 m3 hI3 (by omega), fun y => absurd y (by decide)⟩)
            intro P61 h61
            have n61 : ∀ pcs3 m3, pI f pcs3 m3 → smN m3 64 < smN m0 64 → P61 pcs3 := fun pcs3 m3 hI3 hl => h61 _ (n66 1 pcs3 m3 hI3 (Or.inr ⟨rfl, hl⟩))
            intro P57 h57
            have n57 : (agR f m i) → P57 pcs' := fun ag => by
              refine h57 _ ?_
              rcases hs with ⟨ec, em, h1, h2⟩ | ⟨ec, hl⟩
              · subst em
                refine ⟨fun _ => n66 0 pcs' m hI (Or.inl ⟨rfl, rfl, fun a ha => ?_, h2⟩), fun q => absurd ec q⟩
                by_cases z : a = i
                · rw [z]; exact ag
                · exact h1 a (show a < i by have : a < i + 1 := ha; omega)
              · exact ⟨fun q => absurd (ec.symm.trans q) (by decide), fun _ => n61 pcs' m hI hl⟩
            have low : smN m 64 ≤ smN m0 64 := by
              rcases hs with ⟨_, em, _, _⟩ | ⟨_, hl⟩
              · rw [em]; exact Nat.le_refl _
              · omega
            rw [show nI i - nI i / (8 : Int32) * (8 : Int32) = nI (i % 8) from pk_rem (d := 8) (by omega) (by decide) (by decide)]
            by_cases z : 7 ≤ i % 8
            · exact br_t (nI_le (a := 7) (b := i % 8) z (by omega)) (n57 (fun q => absurd (show i % 8 = 7 by omega) q))
            · refine br_f (nI_ge (a := i % 8) (b := 7) (by omega) (by omega)) ?_
              rw [pu_i1]
              refine pm_joins f hz m hI i (i + 1) (by omega) (by omega) (Or.inl ⟨rfl, by omega⟩) (fun q => ⟨fun y => absurd rfl y, fun _ => n57 (fun _ => q)⟩) (fun m3 pcs3 hI3 hl => ⟨fun _ => n61 pcs3 m3 hI3 (by omega), fun y => absurd y (by decide)⟩)
        exact key 64 0 0 pcs0 m0 (by omega) hI0 (Or.inl ⟨rfl, rfl, fun a ha => absurd ha (Nat.not_lt_zero a), fun a ha => absurd ha (Nat.not_lt_zero a)⟩)
    exact pass _ pcs' (fun x => x) ⟨h', fun x _ => ⟨Nat.le_refl _, fun _ => cnx_r _ _⟩⟩ (Nat.le_refl _)
  have key : ∀ d j (pcs' : Nat → Int32), j + d = 64 → (∀ x, x < j → pcs' x = nI x) → P (nI j) pcs' := by
    intro d
    induction d with
    | zero =>
      intro j pcs' hj h'
      have : j = 64 := by omega
      subst this
      exact main pcs' h'
    | succ d ih =>
      intro j pcs' hj h'
      refine hP _ _ (br_f (nI_ge (a := j) (b := 64) (by omega) (by omega)) ⟨vp_in_nI (by omega) (by omega), ?_⟩)
      rw [nI_clamp (by omega), pu_i1]
      refine ih (j + 1) _ (by omega) (fun x hx => ?_)
      rw [pu_upd]
      by_cases z : x = j
      · rw [if_pos z, z]
      · rw [if_neg z]; exact h' x (by omega)
  exact key 64 0 pcs (by omega) (fun x hx => absurd hx (by omega))
