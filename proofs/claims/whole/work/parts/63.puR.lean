/-! the reference: states recorded, saved, given back -/
theorem pM_congr {z z' : Nat → Int32} {p : Pap} (h : ∀ i, i < 207 → z' i = z i) (hp : pM z p) : pM z' p := by
  obtain ⟨ok, h0, h1, h2, h3, h4⟩ := hp
  have h6 := fp_ok_6 ok
  refine ⟨ok, by rw [h 0 (by omega)]; exact h0, fun i hi => by rw [h _ (by omega)]; exact h1 i hi, fun c hc => by rw [h _ (by omega)]; exact h2 c hc, fun j hj => by rw [h _ (by omega)]; exact h3 j hj, fun r hr => ?_⟩
  obtain ⟨m, a, b, c⟩ := h4 r hr
  exact ⟨m, a, by rw [h _ (by omega)]; exact b, c⟩
/-- the recorded states of the reference -/
def pH (past : Nat → Int32) (k : Nat) (hp : Nat → Pap) : Prop := ∀ j, j < k → pM (fun i => past (j * 207 + i)) (hp j)
/-- states behind one more is recorded -/
def hPush (k : Nat) (hp : Nat → Pap) (p : Pap) : Nat → Pap := if k < 5 then fun j => if j = k then p else hp j else fun j => if j = 4 then p else hp (j + 1)
def hLen (k : Nat) : Nat := if k < 5 then k + 1 else 5
theorem pm_record {pastMany : Int32} {zz past : Nat → Int32} {post : Int32 → (Nat → Int32) → Prop} (k : Nat) (hk : k ≤ 5) (hp : Nat → Pap) (p : Pap) (hz : pM zz p) (hm : pastMany = nI k) (hh : pH past k hp)
    (h : ∀ past', pH past' (hLen k) (hPush k hp p) → post (nI (hLen k)) past') : wp_X6_record pastMany zz past post := by
  subst hm
  intro P49 hP49
  -- the copy of the state to the place m
  have cp : ∀ m (hp' : Nat → Pap) (past0 : Nat → Int32), m ≤ 4 → pH past0 m hp' → (∀ past', pH past' (m + 1) (fun j => if j = m then p else hp' j) → post (nI (m + 1)) past') → P49 (nI m) past0 := by
    intro m hp' past0 hm4 hh' hpost
    apply hP49
    intro P51 hP51
    have key : ∀ k2 j (pa : Nat → Int32), j + k2 = 207 → (∀ i, i < m * 207 → pa i = past0 i) → (∀ i, i < j → pa (m * 207 + i) = zz i) → P51 (nI j) pa := by
      intro k2
      induction k2 with
      | zero =>
        intro j pa hj I1 I2
        apply hP51
        have hj' : j = 207 := by omega
        subst hj'
        refine br_t (nI_le (a := 207) (b := 207) (Nat.le_refl _) (by omega)) ?_
        rw [pu_i1]
        refine hpost pa (fun j hj => ?_)
        show pM (fun i => pa (j * 207 + i)) (if j = m then p else hp' j)
        by_cases z : j = m
        · subst z
          rw [if_pos rfl]
          exact pM_congr (fun i hi => I2 i hi) hz
        · rw [if_neg z]
          refine pM_congr (fun i hi => I1 _ ?_) (hh' j (by omega))
          have : (j + 1) * 207 ≤ m * 207 := Nat.mul_le_mul_right 207 (by omega)
          omega
      | succ k2 ih =>
        intro j pa hj I1 I2
        apply hP51
        have e : nI m * (207 : Int32) + nI j = nI (m * 207 + j) := by rw [show nI m * (207 : Int32) = nI (m * 207) from pk_mul m 207, nI_add]
        have b : m * 207 ≤ 4 * 207 := Nat.mul_le_mul_right 207 hm4
        rw [e]
        refine br_f (nI_ge (a := j) (b := 207) (by omega) (by omega)) ⟨vp_in_nI (by omega) (by omega), vp_in_nI (by omega) (by omega), ?_⟩
        rw [pu_i1, nI_clamp (by omega), nI_clamp (by omega)]
        refine ih (j + 1) _ (by omega) (fun i hi => ?_) (fun i hi => ?_)
        · rw [pu_upd_n _ _ (by omega)]
          exact I1 i hi
        · rw [pu_upd]
          split
          · rename_i z
            have : i = j := by omega
            rw [this]
          · exact I2 i (by omega)
    exact key 207 0 past0 (by omega) (fun i hi => rfl) (fun i hi => absurd hi (by omega))
  refine ⟨fun z => ?_, fun z => ?_⟩
  · have hk5 : k ≠ 5 := fun e => z (by rw [e]; rfl)
    have hlt : k < 5 := by omega
    refine cp k hp past (by omega) hh (fun past' hh' => ?_)
    have := h past'
    unfold hLen hPush at this
    rw [if_pos hlt, if_pos hlt] at this
    exact this hh'
  · have hk5 : k = 5 := (nI_eq (a := k) (b := 5) (by omega) (by omega)).mp z
    subst hk5
    intro P10 hP10
    have key : ∀ k2 j (pa : Nat → Int32), j + k2 = 828 → (∀ i, i < j → pa i = past (i + 207)) → (∀ i, j ≤ i → pa i = past i) → P10 (nI j) pa := by
      intro k2
      induction k2 with
      | zero =>
        intro j pa hj I1 I2
        apply hP10
        have hj' : j = 828 := by omega
        subst hj'
        refine br_t (nI_le (a := 828) (b := 828) (Nat.le_refl _) (by omega)) ?_
        rw [show nI 5 - (1 : Int32) = nI 4 from rfl]
        refine cp 4 (fun j => hp (j + 1)) pa (by omega) (fun j hj => ?_) (fun past' hh' => ?_)
        · refine pM_congr (fun i hi => ?_) (hh (j + 1) (by omega))
          have : (j + 1) * 207 ≤ 4 * 207 := Nat.mul_le_mul_right 207 (by omega)
          rw [I1 _ (by omega)]
          congr 1
          omega
        · exact h past' hh'
      | succ k2 ih =>
        intro j pa hj I1 I2
        apply hP10
        rw [show nI j + (207 : Int32) = nI (j + 207) from nI_add j 207]
        refine br_f (nI_ge (a := j) (b := 828) (by omega) (by omega)) ⟨vp_in_nI (by omega) (by omega), vp_in_nI (by omega) (by omega), ?_⟩
        rw [pu_i1, nI_clamp (by omega), nI_clamp (by omega)]
        refine ih (j + 1) _ (by omega) (fun i hi => ?_) (fun i hi => ?_)
        · rw [pu_upd]
          split
          · rename_i z
            rw [z]
            exact I2 _ (by omega)
          · exact I1 i (by omega)
        · rw [pu_upd_n _ _ (by omega)]
          exact I2 i (by omega)
    exact key 828 0 past (by omega) (fun i hi => absurd hi (by omega)) (fun i _ => rfl)
theorem pm_undo {pastMany : Int32} {zz past : Nat → Int32} {post : Int32 → Int32 → (Nat → Int32) → Prop} (k : Nat) (hk : k ≤ 5) (hp : Nat → Pap) (hm : pastMany = nI k) (hh : pH past k hp)
    (h0 : k = 0 → post (-3) (nI 0) zz) (h1 : ∀ m, k = m + 1 → ∀ zz', pM zz' (hp m) → post (nI m) (nI m) zz') : wp_X6_undo pastMany zz past post := by
  subst hm
  refine ⟨fun z => ?_, fun z => ?_⟩
  · have hk0 : k ≠ 0 := fun e => z (by rw [e]; rfl)
    obtain ⟨m, rfl⟩ : ∃ m, k = m + 1 := ⟨k - 1, by omega⟩
    rw [show nI (m + 1) - (1 : Int32) = nI m from nI_pred m]
    intro P22 hP22
    have key : ∀ k2 j (zz' : Nat → Int32), j + k2 = 207 → (∀ i, i < j → zz' i = past (m * 207 + i)) → P22 (nI j) zz' := by
      intro k2
      induction k2 with
      | zero =>
        intro j zz' hj I
        apply hP22
        have hj' : j = 207 := by omega
        subst hj'
        refine br_t (nI_le (a := 207) (b := 207) (Nat.le_refl _) (by omega)) ?_
        exact h1 m rfl zz' (pM_congr (fun i hi => I i hi) (hh m (by omega)))
      | succ k2 ih =>
        intro j zz' hj I
        apply hP22
        have e : nI m * (207 : Int32) + nI j = nI (m * 207 + j) := by rw [show nI m * (207 : Int32) = nI (m * 207) from pk_mul m 207, nI_add]
        have b : m * 207 ≤ 4 * 207 := Nat.mul_le_mul_right 207 (by omega)
        rw [e]
        refine br_f (nI_ge (a := j) (b := 207) (by omega) (by omega)) ⟨vp_in_nI (by omega) (by omega), vp_in_nI (by omega) (by omega), ?_⟩
        rw [pu_i1, nI_clamp (by omega), nI_clamp (by omega)]
        refine ih (j + 1) _ (by omega) (fun i hi => ?_)
        rw [pu_upd]
        split
        · rename_i z
          rw [z]
        · exact I i (by omega)
    exact key 207 0 zz (by omega) (fun i hi => absurd hi (by omega))
  · have hk0 : k = 0 := (nI_eq (a := k) (b := 0) (by omega) (by omega)).mp z
    subst hk0
    exact h0 rfl
/-- a copy of 207 numbers, as save and restore have it -/
theorem pm_save {isKept : Int32} {zz kz : Nat → Int32} {post : Int32 → Int32 → (Nat → Int32) → Prop} (p : Pap) (hz : pM zz p) (h : ∀ kz', pM kz' p → post (nI (qn p)) (1 : Int32) kz') : wp_X6_save isKept zz kz post := by
  intro P7 hP7
  have key : ∀ k2 j (a : Nat → Int32), j + k2 = 207 → (∀ i, i < j → a i = zz i) → P7 (nI j) a := by
    intro k2
    induction k2 with
    | zero =>
      intro j a hj I
      apply hP7
      have hj' : j = 207 := by omega
      subst hj'
      refine br_t (nI_le (a := 207) (b := 207) (Nat.le_refl _) (by omega)) ⟨vp_in_nI (n := 0) (by omega) (by omega), ?_⟩
      have := h a (pM_congr (fun i hi => I i hi) hz)
      rw [← hz.2.1] at this
      exact this
    | succ k2 ih =>
      intro j a hj I
      apply hP7
      refine br_f (nI_ge (a := j) (b := 207) (by omega) (by omega)) ⟨vp_in_nI (by omega) (by omega), vp_in_nI (by omega) (by omega), ?_⟩
      rw [pu_i1, nI_clamp (by omega)]
      refine ih (j + 1) _ (by omega) (fun i hi => ?_)
      rw [pu_upd]
      split
      · rename_i z
        rw [z]
      · exact I i (by omega)
  exact key 207 0 kz (by omega) (fun i hi => absurd hi (by omega))
theorem pm_restore {pastMany isKept : Int32} {zz past kz : Nat → Int32} {post : Int32 → Int32 → (Nat → Int32) → (Nat → Int32) → Prop} (k : Nat) (hk : k ≤ 5) (hp : Nat → Pap) (p sp : Pap) (hz : pM zz p) (hm : pastMany = nI k) (hh : pH past k hp) (ik : Bool) (hik : isKept = bI ik) (hs : ik = true → pM kz sp)
    (h0 : ik = false → post (-3) pastMany zz past) (h1 : ik = true → ∀ zz' past', pM zz' sp → pH past' (hLen k) (hPush k hp p) → post (nI (qn sp)) (nI (hLen k)) zz' past') : wp_X6_restore pastMany isKept zz past kz post := by
  subst hik
  refine pu_brN (fun z => h0 z) (fun z => ?_)
  refine pm_record k hk hp p hz hm hh (fun past' hh' => ?_)
  intro P16 hP16
  have key : ∀ k2 j (a : Nat → Int32), j + k2 = 207 → (∀ i, i < j → a i = kz i) → P16 (nI j) a := by
    intro k2
    induction k2 with
    | zero =>
      intro j a hj I
      apply hP16
      have hj' : j = 207 := by omega
      subst hj'
      refine br_t (nI_le (a := 207) (b := 207) (Nat.le_refl _) (by omega)) ⟨vp_in_nI (n := 0) (by omega) (by omega), ?_⟩
      have hza := pM_congr (fun i hi => I i hi) (hs z)
      have := h1 z a past' hza hh'
      rw [← hza.2.1] at this
      exact this
    | succ k2 ih =>
      intro j a hj I
      apply hP16
      refine br_f (nI_ge (a := j) (b := 207) (by omega) (by omega)) ⟨vp_in_nI (by omega) (by omega), vp_in_nI (by omega) (by omega), ?_⟩
      rw [pu_i1, nI_clamp (by omega)]
      refine ih (j + 1) _ (by omega) (fun i hi => ?_)
      rw [pu_upd]
      split
      · rename_i z
        rw [z]
      · exact I i (by omega)
  exact key 207 0 zz (by omega) (fun i hi => absurd hi (by omega))
