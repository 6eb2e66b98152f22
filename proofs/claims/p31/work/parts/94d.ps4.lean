/-! the law's pieces, by numbers: the best folds -/
def cS (g : Nat → Bool) (k : Nat) : Int32 × Int32 := if k < 56 then sqC g (k / 8) (min (k % 8) (k / 8 + 1)) (alC g (k / 8)) else alC g 7
theorem cS_step (g : Nat → Bool) {k : Nat} (hk : k < 64) (ha : k % 8 ≤ k / 8) (hF : k / 8 ≤ 6) : cS g (k + 1) = stC (cS g k) (bV g (k % 8) (k / 8 - k % 8)) (nI (10 * (k % 8) + k / 8 - k % 8)) := by
  unfold cS
  rw [if_pos (show k + 1 < 56 by omega), if_pos (show k < 56 by omega), show (k + 1) / 8 = k / 8 by omega, show (k + 1) % 8 = k % 8 + 1 by omega, show min (k % 8 + 1) (k / 8 + 1) = k % 8 + 1 by omega, show min (k % 8) (k / 8 + 1) = k % 8 by omega]
  rfl
theorem cS_skip (g : Nat → Bool) {k : Nat} (hk : k < 64) (ha : k / 8 < k % 8 ∨ 7 ≤ k / 8) : cS g (k + 1) = cS g k := by
  unfold cS
  by_cases z : k < 56
  · rw [if_pos z]
    by_cases q : k % 8 = 7
    · have e1 : min (k % 8) (k / 8 + 1) = k / 8 + 1 := by omega
      have e2 : (k + 1) / 8 = k / 8 + 1 := by omega
      have e3 : min ((k + 1) % 8) ((k + 1) / 8 + 1) = 0 := by omega
      by_cases w : k + 1 < 56
      · rw [if_pos w, e1, e2, show min ((k + 1) % 8) (k / 8 + 1 + 1) = 0 by omega]
        rfl
      · rw [if_neg w, e1, show k / 8 = 6 by omega]
        rfl
    · rw [if_pos (show k + 1 < 56 by omega), show (k + 1) / 8 = k / 8 by omega, show (k + 1) % 8 = k % 8 + 1 by omega, show min (k % 8 + 1) (k / 8 + 1) = min (k % 8) (k / 8 + 1) by omega]
  · rw [if_neg z, if_neg (by omega)]
def oK (s : Int32 × Int32) : Prop := ∃ a b : Nat, a ≤ 100 ∧ b ≤ 65 ∧ s = (nI a, nI b)
theorem stC_ok {s : Int32 × Int32} (h : oK s) {r : Int32} {m : Nat} (hm : m ≤ 100) (hr : r = -6 ∨ ∃ k : Nat, k ≤ 64 ∧ r = nI k) : oK (stC s r (nI m)) := by
  unfold stC
  rcases hr with z | ⟨k, hk, z⟩
  · rw [if_pos z]
    exact h
  · rw [if_neg (by rw [z]; exact pm_ne6 (by omega))]
    split
    · exact h
    · exact ⟨m, k, hm, by omega, by rw [z]⟩
theorem sqC_ok (g : Nat → Bool) (F : Nat) (hF : F ≤ 6) : ∀ a, a ≤ 7 → ∀ s, oK s → oK (sqC g F a s)
  | 0, _, s, h => h
  | a + 1, ha, s, h => stC_ok (sqC_ok g F hF a (by omega) s h) (by omega) bV_rng
theorem alC_ok (g : Nat → Bool) : ∀ F, F ≤ 7 → oK (alC g F)
  | 0, _ => ⟨0, 65, by omega, by omega, rfl⟩
  | F + 1, h => sqC_ok g F (by omega) (F + 1) (by omega) _ (alC_ok g F (by omega))
theorem cS_ok (g : Nat → Bool) (k : Nat) : oK (cS g k) := by
  unfold cS
  split
  · exact sqC_ok g _ (by omega) _ (by omega) _ (alC_ok g _ (by omega))
  · exact alC_ok g 7 (by omega)
theorem bV_00 (g : Nat → Bool) : ∃ k : Nat, k ≤ 64 ∧ pW (kC 0) 0 g = nI k := by
  refine ⟨ct g 64 / 2 ^ 0, Nat.le_trans (Nat.div_le_self _ _) (ct_le g 64), ?_⟩
  unfold pW
  refine if_pos (fun x hx y hy s => ?_)
  have s1 : x % 8 = y % 8 := s.1
  have s2 : x / 8 = y / 8 := s.2
  rw [show x = y by omega]
/-- the best and the least so far, as the law holds them -/
def bL (g : Nat → Bool) (k : Nat) (b l : Int32) : Prop := (k = 0 ∧ b = -1 ∧ l = 0) ∨ (0 < k ∧ (b, l) = cS g k)
theorem bL_skip {g : Nat → Bool} {k : Nat} {b l : Int32} (h : bL g k b l) (hk : k < 64) (hs : k / 8 < k % 8 ∨ 3 < k % 8 ∨ 3 < k / 8 - k % 8) : bL g (k + 1) b l := by
  rcases h with ⟨z, -, -⟩ | ⟨z, e⟩
  · omega
  · refine Or.inr ⟨by omega, ?_⟩
    rw [e]
    by_cases q : k / 8 < k % 8 ∨ 7 ≤ k / 8
    · exact (cS_skip g hk q).symm
    · rw [cS_step g hk (by omega) (by omega)]
      have : bV g (k % 8) (k / 8 - k % 8) = -6 := by
        unfold bV
        rw [if_neg (by omega)]
      rw [this]
      unfold stC
      rw [if_pos rfl]
theorem ps_best1 {vt vg : Nat → Int32} {k25 k26 : Int32} {p1391 p1397 : Int32 → Int32 → Int32 → (Nat → Int32) → Prop} (g : Nat → Bool) (ht : tR vt g) (k : Nat) (hk : k ≤ 64) (hb : bL g k k25 k26)
    (h0 : k = 64 → p1397 k25 k26 (nI 64) vg) (h1 : k < 64 → ∀ b l vg', bL g (k + 1) b l → p1391 b l (nI k) vg') : wp_sg_best1 vt vg k25 k26 (nI k) p1391 p1397 := by
  refine pk_le 64 k (fun z => ?_) (fun z => ?_)
  · have ek : k = 64 := by omega
    subst ek
    exact h0 rfl
  · have d8 : nI k / (8 : Int32) = nI (k / 8) := pk_div (d := 8) (by omega) (by decide) (by decide)
    have r8 : nI k - nI k / (8 : Int32) * (8 : Int32) = nI (k % 8) := pk_rem (d := 8) (by omega) (by decide) (by decide)
    refine nm_r d8 (nm_r r8 ?_)
    have skip : (k / 8 < k % 8 ∨ 3 < k % 8 ∨ 3 < k / 8 - k % 8) → p1391 k25 k26 (nI k) vg := fun q => h1 z _ _ _ (bL_skip hb z q)
    refine pk_lt (k / 8) (k % 8) (fun q => skip (Or.inl q)) (fun q1 => pk_lt 3 (k % 8) (fun q => skip (Or.inr (Or.inl q))) (fun q2 => ?_))
    rw [pk_sub q1]
    refine pk_lt 3 (k / 8 - k % 8) (fun q => skip (Or.inr (Or.inr q))) (fun q3 => ?_)
    generalize ha : k % 8 = a at *
    generalize hF : k / 8 = F at *
    have hkaF : k = 8 * F + a := by omega
    obtain ⟨bb, hbb⟩ : ∃ bb, F = a + bb := ⟨F - a, by omega⟩
    have F6 : F ≤ 6 := by omega
    have okF : fp_ok (kC a) F := by
      rw [hbb]
      exact kC_ok q2 (by omega)
    intro P1284 h1284
    have key : ∀ d m (vg' : Nat → Int32), m + d = 6 → (∀ i, i < m → vg' i = nI (kC a i)) → P1284 (nI m) vg' := by
      intro d
      induction d with
      | zero =>
        intro m vg' hm hv
        have em : m = 6 := by omega
        subst em
        refine h1284 _ _ (br_t (nI_le (a := 6) (b := 6) (Nat.le_refl _) (by decide)) ⟨in_6, ?_⟩)
        rw [cl_6]
        refine pl_punches (kC a) F okF ⟨pu_upd_s _ _ _, fun i hi => by rw [pu_upd_n _ _ (show i ≠ 6 by omega)]; exact hv i (by omega)⟩ g ht ?_
        intro P1352 h1352
        have go : ∀ bt : Bool, bL g (k + 1) (if bt = true then nI (10 * a + F - a) else k25) (if bt = true then pV (kC a) F g else k26) → P1352 (bI bt) := fun bt hl => by
          refine h1352 _ ?_
          intro P1375 h1375
          refine pu_sel (h1375 _ ?_)
          intro P1389 h1389
          refine pu_sel (h1389 _ ?_)
          rw [show (10 : Int32) * nI a = nI (10 * a) from pk_mul 10 a, nI_add, pk_sub (by omega)]
          exact h1 z _ _ _ hl
        have bVe : bV g a (F - a) = pW (kC a) F g := by
          unfold bV
          rw [if_pos (show a ≤ 3 ∧ F - a ≤ 3 by omega), show a + (F - a) = F by omega]
        have cs := cS_step g z (by omega) (by omega)
        rw [ha, hF, bVe] at cs
        intro P1351 h1351
        rcases pW_rng (kf := kC a) (n := F) (g := g) with w | ⟨n, hn, w⟩
        · have e : pV (kC a) F g = -1 := by unfold pV; rw [if_pos w]
          rw [e] at go ⊢
          refine br_t (by decide) (h1351 (go false ?_))
          rw [if_neg (by decide), if_neg (by decide)]
          rcases hb with ⟨y, -, -⟩ | ⟨y, e2⟩
          · exfalso
            have a0 : a = 0 := by omega
            have F0 : F = 0 := by omega
            obtain ⟨n, hn, e3⟩ := bV_00 g
            rw [a0, F0, e3] at w
            exact pm_ne6 (by omega) w
          · refine Or.inr ⟨by omega, ?_⟩
            rw [cs, e2, w]
            unfold stC
            rw [if_pos rfl]
        · have e : pV (kC a) F g = nI n := by
            unfold pV
            rw [if_neg (by rw [w]; exact pm_ne6 (by omega)), w]
          rw [e] at go ⊢
          rw [w] at cs
          refine br_f (nI_pos (by omega)) ?_
          intro P1347 h1347
          rcases hb with ⟨y, e2, e3⟩ | ⟨y, e2⟩
          · have a0 : a = 0 := by omega
            have F0 : F = 0 := by omega
            rw [e2]
            refine br_t (by decide) (h1347 (go true ?_))
            rw [if_pos rfl, if_pos rfl]
            refine Or.inr ⟨by omega, ?_⟩
            rw [cs, y, a0, F0]
            show _ = stC (0, 65) (nI n) (nI 0)
            unfold stC
            rw [if_neg (pm_ne6 (by omega)), if_neg (show ¬ ((0 : Int32), (65 : Int32)).snd ≤ nI n from nI_ge (b := 65) (a := n) (by omega) (by omega))]
          · obtain ⟨b', l', hb', hl', e3⟩ := cS_ok g k
            rw [e3] at e2 cs
            have e4 : k25 = nI b' := congrArg Prod.fst e2
            have e5 : k26 = nI l' := congrArg Prod.snd e2
            rw [e4, e5] at go ⊢
            refine br_f (nI_pos (by omega)) (pk_le l' n (fun q => h1351 (go false ?_)) (fun q => h1347 (go true ?_)))
            · rw [if_neg (by decide), if_neg (by decide)]
              refine Or.inr ⟨by omega, ?_⟩
              rw [cs]
              unfold stC
              rw [if_neg (pm_ne6 (by omega)), if_pos (show ((nI b', nI l') : Int32 × Int32).snd ≤ nI n from nI_le q (by omega))]
            · rw [if_pos rfl, if_pos rfl]
              refine Or.inr ⟨by omega, ?_⟩
              rw [cs]
              unfold stC
              rw [if_neg (pm_ne6 (by omega)), if_neg (show ¬ ((nI b', nI l') : Int32 × Int32).snd ≤ nI n from nI_ge q (by omega))]
      | succ d ih =>
        intro m vg' hm hv
        have im : vp_in (nI m) 7 := vp_in_nI (by omega) (by omega)
        refine h1284 _ _ (br_f (nI_ge (a := m) (b := 6) (by omega) (by omega)) ?_)
        rw [nI_clamp (n := m) (by omega), pu_i1]
        intro P1307 h1307
        have go : P1307 (nI (kC a m)) := h1307 _ ⟨im, ih (m + 1) _ (by omega) (fun i hi => by
          rw [pu_upd]
          by_cases q : i = m
          · rw [if_pos q, q]
          · rw [if_neg q]
            exact hv i (by omega))⟩
        unfold kC at go
        refine pk_le a m (fun q => ?_) (fun q => ?_)
        · rw [if_neg (by omega)] at go
          exact go
        · rw [if_pos q] at go
          exact go
    exact key 6 0 vg (by omega) (fun i hi => absurd hi (by omega))
theorem ps_best3 {npat ngoal : Int64} {ncol : Nat → Int32} {nmade nmac : Int32} {nks : Nat → Int32} {tmade tmac : Int32} {tks : Nat → Int32} {k25 k26 : Int32} {post : Int32 → Int32 → (Nat → Int32) → Prop} (p : Pap) (hC : pC npat ngoal ncol nmade nmac nks p) (hb : bL (qg p) 64 k25 k26) (h : ∀ a b c, post a b c) : wp_sg_best3 ngoal tmade tmac tks k25 post := by
  refine pu_bestFolds (qg p) hC.2.2.2.2.2.2 (fun m c k => ?_)
  rcases hb with ⟨z, -⟩ | ⟨-, e⟩
  · omega
  · have e0 : cS (qg p) 64 = alC (qg p) 7 := if_neg (by decide)
    rw [e0] at e
    generalize alC (qg p) 7 = s at e ⊢
    have e1 : k25 = s.1 := congrArg Prod.fst e
    exact br_t e1.symm (h _ _ _)
