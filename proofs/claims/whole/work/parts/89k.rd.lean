/-! texts: one work read -/
abbrev tD (tl : Nat) (tx : Nat → Nat) (i lo hi : Nat) : Prop := i < tl ∧ 48 + lo ≤ tx i ∧ tx i ≤ 48 + hi
abbrev Wk : Type := Nat × Nat × Nat × Nat × Nat × Nat
/-- 1 and where it ends, its letter, column, row and number; or 0 and where its error is -/
def rd (tl : Nat) (tx : Nat → Nat) (i : Nat) : Wk :=
  if i < tl then
    if tx i = 76 ∨ tx i = 82 ∨ tx i = 84 ∨ tx i = 66 ∨ tx i = 85 then (1, i + 1, tx i, 0, 0, 0)
    else if tx i = 80 ∨ tx i = 73 then
      if tD tl tx (i + 1) 0 7 then
        if tD tl tx (i + 2) 0 7 then
          if tx i = 80 then
            if i + 3 < tl ∧ tx (i + 3) = 58 then
              if tD tl tx (i + 4) 1 9 then
                if tD tl tx (i + 5) 0 9 ∧ 10 * (tx (i + 4) - 48) + (tx (i + 5) - 48) ≤ 64 then (1, i + 6, 80, tx (i + 1) - 48, tx (i + 2) - 48, 10 * (tx (i + 4) - 48) + (tx (i + 5) - 48))
                else (1, i + 5, 80, tx (i + 1) - 48, tx (i + 2) - 48, tx (i + 4) - 48)
              else (0, i + 4, 0, 0, 0, 0)
            else (1, i + 3, 80, tx (i + 1) - 48, tx (i + 2) - 48, 0)
          else if tD tl tx (i + 3) 1 5 then (1, i + 4, 73, tx (i + 1) - 48, tx (i + 2) - 48, tx (i + 3) - 48)
          else (0, i + 3, 0, 0, 0, 0)
        else (0, i + 2, 0, 0, 0, 0)
      else (0, i + 1, 0, 0, 0, 0)
    else (0, i, 0, 0, 0, 0)
  else (0, i, 0, 0, 0, 0)
/-- a text of tl signs, in an array -/
def tC (tl : Nat) (tx : Nat → Nat) (len : Int32) (chs : Nat → Int32) : Prop := tl ≤ 60 ∧ len = nI tl ∧ (∀ i, i < tl → chs i = nI (tx i)) ∧ ∀ i, i < tl → 33 ≤ tx i ∧ tx i ≤ 126
def tW (w : Wk) (lt cl rw nm : Int32) : Prop := w.1 = 1 → lt = nI w.2.2.1 ∧ (w.2.2.1 = 80 ∨ w.2.2.1 = 73 → cl = nI w.2.2.2.1 ∧ rw = nI w.2.2.2.2.1 ∧ nm = nI w.2.2.2.2.2)
theorem ne_m1 {n : Nat} (h : n < 2 ^ 31) : ¬ nI n = (-1 : Int32) := fun e => by
  have a := congrArg Int32.toInt e
  rw [nI_toInt h] at a
  have b : (-1 : Int32).toInt = -1 := by decide
  omega
theorem pu_cur {wlen : Int32} {chs : Nat → Int32} {post : Int32 → Prop} {tl : Nat} {tx : Nat → Nat} (hT : tC tl tx wlen chs) (i : Nat) (hi : i < 1000)
    (h0 : tl ≤ i → post (-1)) (h1 : i < tl → post (nI (tx i))) : wp_X4_currentCharacter wlen (nI i) chs post := by
  obtain ⟨h60, hl, hc, hb⟩ := hT
  subst hl
  intro P35 h35 P34 h34
  refine br_f (nI_pos (by omega)) ?_
  by_cases z : tl ≤ i
  · exact br_t (nI_le z (by omega)) (h34 (h35 _ ⟨fun _ => h0 z, fun q => absurd rfl q⟩))
  · refine br_f (nI_ge (by omega) (by omega)) ?_
    refine br_f (nI_ge (a := i) (b := 60) (by omega) (by omega)) (h35 _ ⟨fun q => absurd q (by decide), fun _ => ⟨vp_in_nI (by omega) (by omega), ?_⟩⟩)
    rw [nI_clamp (by omega), hc i (by omega)]
    exact h1 (by omega)
theorem pu_digit {wlen : Int32} {chs : Nat → Int32} {post : Int32 → Int32 → Prop} {tl : Nat} {tx : Nat → Nat} (hT : tC tl tx wlen chs) (i lo : Nat) (x2 : Int32) (hi : i < 1000) (hlo : lo < 1000)
    (h0 : ¬ (i < tl ∧ 48 + lo ≤ tx i ∧ nI (tx i - 48) ≤ x2) → post (-1) (nI i)) (h1 : i < tl → 48 + lo ≤ tx i → nI (tx i - 48) ≤ x2 → post (nI (tx i - 48)) (nI (i + 1))) : wp_X4_readDigit wlen (nI i) chs (nI lo) x2 post := by
  refine pu_cur hT i hi (fun z => ?_) (fun z => ?_)
  · intro w hw P18 h18
    subst hw
    refine br_t ?_ (h18 (h0 (fun q => by omega)))
    rw [Int32.lt_iff_toInt_lt, nI_toInt (by omega)]
    have e : ((-1 : Int32) - 48).toInt = -49 := by decide
    omega
  · have b := hT.2.2.2 i z
    intro w hw P18 h18
    subst hw
    by_cases y : 48 + lo ≤ tx i
    · rw [show nI (tx i) - (48 : Int32) = nI (tx i - 48) from pk_sub (b := 48) (by omega)]
      refine br_f (nI_nlt' (by omega) (by omega)) ?_
      by_cases y2 : nI (tx i - 48) ≤ x2
      · refine br_t y2 ?_
        rw [pu_i1]
        exact h1 z y y2
      · exact br_f y2 (h18 (h0 (fun q => y2 q.2.2)))
    · refine br_t ?_ (h18 (h0 (fun q => y q.2.1)))
      have e : (nI (tx i) - (48 : Int32)).toInt = (tx i : Int) - (48 : Nat) := pk_sub_toInt (b := 48) (by omega) (by omega)
      rw [Int32.lt_iff_toInt_lt, e, nI_toInt (by omega)]
      omega
theorem pu_dig {wlen : Int32} {chs : Nat → Int32} {post : Int32 → Int32 → Prop} {tl : Nat} {tx : Nat → Nat} (hT : tC tl tx wlen chs) (i lo hi : Nat) (hi_ : i < 1000) (hlo : lo < 1000) (hhi : hi < 1000)
    (h0 : ¬ tD tl tx i lo hi → post (-1) (nI i)) (h1 : tD tl tx i lo hi → post (nI (tx i - 48)) (nI (i + 1))) : wp_X4_readDigit wlen (nI i) chs (nI lo) (nI hi) post := by
  refine pu_digit hT i lo (nI hi) hi_ hlo (fun z => h0 (fun q => z ⟨q.1, q.2.1, nI_le (by have := q.2.2; omega) (by omega)⟩)) (fun a b c => h1 ⟨a, b, ?_⟩)
  have bb := hT.2.2.2 i a
  have : ¬ hi < tx i - 48 := fun q => nI_ge q (by omega) c
  omega
theorem pu_readField {wlen wcol wrow : Int32} {chs : Nat → Int32} {post : Int32 → Int32 → Int32 → Int32 → Prop} {tl : Nat} {tx : Nat → Nat} (hT : tC tl tx wlen chs) (j j2 j3 : Nat) (e2 : j2 = j + 1) (e3 : j3 = j2 + 1) (hj : j < 900)
    (h0 : ¬ tD tl tx j 0 7 → post 0 (nI j) (-1) wrow) (h1 : tD tl tx j 0 7 → ¬ tD tl tx j2 0 7 → post 0 (nI j2) (nI (tx j - 48)) (-1))
    (h2 : tD tl tx j 0 7 → tD tl tx j2 0 7 → post 1 (nI j3) (nI (tx j - 48)) (nI (tx j2 - 48))) : wp_X4_readField wlen (nI j) wcol wrow chs post := by
  subst e3
  refine pu_dig hT j 0 7 (by omega) (by omega) (by omega) (fun d => ?_) (fun d => ?_)
  · exact ⟨fun q => absurd rfl q, fun _ => ⟨Or.inl rfl, h0 d⟩⟩
  · have b := hT.2.2.2 j d.1
    refine ⟨fun _ => ?_, fun q => absurd q (ne_m1 (by omega))⟩
    rw [← e2]
    refine pu_dig hT j2 0 7 (by omega) (by omega) (by omega) (fun d2 => ?_) (fun d2 => ?_)
    · exact ⟨fun _ => ⟨Or.inl rfl, h1 d d2⟩, fun q => absurd rfl q⟩
    · have b2 := hT.2.2.2 j2 d2.1
      exact ⟨fun q => absurd q (ne_m1 (by omega)), fun _ => ⟨Or.inr rfl, h2 d d2⟩⟩
theorem dp_le : ∀ v, v < 10 → ∀ d, d < 79 → (nI d ≤ (if ((64 : Int32) - ((10 : Int32) * nI v)) < (9 : Int32) then ((64 : Int32) - ((10 : Int32) * nI v)) else (9 : Int32)) ↔ (d ≤ 9 ∧ 10 * v + d ≤ 64)) := by decide +kernel
theorem pu_readDepth {wlen wnum : Int32} {chs : Nat → Int32} {post : Int32 → Int32 → Int32 → Prop} {tl : Nat} {tx : Nat → Nat} (hT : tC tl tx wlen chs) (j j1 j2 j3 : Nat) (e1 : j1 = j + 1) (e2 : j2 = j1 + 1) (e3 : j3 = j2 + 1) (hj : j < 900)
    (h1 : ¬ (j < tl ∧ tx j = 58) → post 1 (nI j) 0)
    (h0 : (j < tl ∧ tx j = 58) → ¬ tD tl tx j1 1 9 → post 0 (nI j1) (-1))
    (h2 : (j < tl ∧ tx j = 58) → tD tl tx j1 1 9 → ¬ (tD tl tx j2 0 9 ∧ 10 * (tx j1 - 48) + (tx j2 - 48) ≤ 64) → post 1 (nI j2) (nI (tx j1 - 48)))
    (h3 : (j < tl ∧ tx j = 58) → tD tl tx j1 1 9 → (tD tl tx j2 0 9 ∧ 10 * (tx j1 - 48) + (tx j2 - 48) ≤ 64) → post 1 (nI j3) (nI (10 * (tx j1 - 48) + (tx j2 - 48)))) : wp_X4_readDepth wlen (nI j) wnum chs post := by
  refine pu_cur hT j (by omega) (fun z => ?_) (fun z => ?_)
  · exact ⟨fun q => absurd q (by decide), fun _ => ⟨Or.inr rfl, h1 (fun q => by omega)⟩⟩
  · have b := hT.2.2.2 j z
    refine ⟨fun q => ?_, fun q => ⟨Or.inr rfl, h1 (fun y => q (by rw [y.2]; rfl))⟩⟩
    have c : j < tl ∧ tx j = 58 := ⟨z, (nI_eq (by omega) (by omega)).mp q⟩
    rw [pu_i1, ← e1]
    refine pu_dig hT j1 1 9 (by omega) (by omega) (by omega) (fun d => ?_) (fun d => ?_)
    · exact ⟨fun y => absurd rfl y, fun _ => ⟨Or.inl rfl, h0 c d⟩⟩
    · have b1 := hT.2.2.2 j1 d.1
      have d2 := d.2
      refine ⟨fun _ => ?_, fun y => absurd y (ne_m1 (by omega))⟩
      rw [← e2]
      refine pu_digit hT j2 0 _ (by omega) (by omega) (fun y => ?_) (fun a1 a2 a3 => ?_)
      · intro P90 h90
        refine ⟨fun q2 => absurd rfl q2, fun _ => h90 _ ⟨Or.inr rfl, h2 c d (fun q2 => y ⟨q2.1.1, q2.1.2.1, ?_⟩)⟩⟩
        have b2 := hT.2.2.2 j2 q2.1.1
        have q3 := q2.1.2
        exact (dp_le _ (by omega) _ (by omega)).mpr ⟨by omega, q2.2⟩
      · have b2 := hT.2.2.2 j2 a1
        have a4 := (dp_le _ (by omega) _ (by omega)).mp a3
        intro P90 h90
        refine ⟨fun _ => h90 _ ⟨Or.inr rfl, ?_⟩, fun q2 => absurd q2 (ne_m1 (by omega))⟩
        rw [show (10 : Int32) * nI (tx j1 - 48) = nI (10 * (tx j1 - 48)) from pk_mul 10 _, nI_add, ← e3]
        exact h3 c d ⟨⟨a1, a2, by omega⟩, a4.2⟩
theorem pu_readWork {wlen wlet wcol wrow wnum : Int32} {chs : Nat → Int32} {post : Int32 → Int32 → Int32 → Int32 → Int32 → Int32 → Prop} {tl : Nat} {tx : Nat → Nat} (hT : tC tl tx wlen chs) (i : Nat) (hi : i < 100)
    (h : ∀ lt cl rw nm, tW (rd tl tx i) lt cl rw nm → post (nI (rd tl tx i).1) (nI (rd tl tx i).2.1) lt cl rw nm) : wp_X4_readWork wlen (nI i) wlet wcol wrow wnum chs post := by
  have fail : ∀ e, rd tl tx i = (0, e, 0, 0, 0, 0) → ∀ lt cl rw nm, post 0 (nI e) lt cl rw nm := fun e he lt cl rw nm => by
    rw [he] at h
    exact h _ _ _ _ (fun q => absurd (show (0 : Nat) = 1 from q) (by decide))
  have good : ∀ e L c r n, rd tl tx i = (1, e, L, c, r, n) → L = 80 ∨ L = 73 → post 1 (nI e) (nI L) (nI c) (nI r) (nI n) := fun e L c r n he _ => by
    rw [he] at h
    exact h _ _ _ _ (fun _ => ⟨rfl, fun _ => ⟨rfl, rfl, rfl⟩⟩)
  refine pu_cur hT i (by omega) (fun z => ?_) (fun z => ?_)
  · intro P108 h108 P180 h180
    have g : P180 := h180 ⟨Or.inl rfl, fail i (by unfold rd; rw [if_neg (by omega)]) _ _ _ _⟩
    exact ⟨fun _ => g, fun q => absurd q (by decide), fun _ => g, fun _ => g, fun _ => g, fun _ => g, fun _ => g, fun _ => g, fun q => absurd q (by decide), fun _ => g, fun _ => g, fun q => absurd q (by decide), fun _ => g, fun _ => g, fun _ => g, fun q => absurd q (by decide), fun _ => g, fun q => absurd q (by decide), fun _ => g, fun q => absurd q (by decide), fun q => absurd q (by decide)⟩
  · have b := hT.2.2.2 i z
    have sw : ∀ c : Nat, c < 1000 → nI (tx i) = nI c → tx i = c := fun c hc' e => (nI_eq (by omega) (by omega)).mp e
    intro P108 h108 P180 h180
    have bad : ¬ (tx i = 76 ∨ tx i = 82 ∨ tx i = 84 ∨ tx i = 66 ∨ tx i = 85 ∨ tx i = 80 ∨ tx i = 73) → P180 := fun q => h180 ⟨Or.inl rfl, fail i (by unfold rd; rw [if_pos z, if_neg (by omega), if_neg (by omega)]) _ _ _ _⟩
    have one : (tx i = 76 ∨ tx i = 82 ∨ tx i = 84 ∨ tx i = 66 ∨ tx i = 85) → P108 := fun q => h108 ⟨Or.inr rfl, by
      have e : rd tl tx i = (1, i + 1, tx i, 0, 0, 0) := by unfold rd; rw [if_pos z, if_pos q]
      rw [e] at h
      rw [pu_i1]
      exact h _ _ _ _ (fun _ => ⟨rfl, fun y => absurd (show tx i = 80 ∨ tx i = 73 from y) (by omega)⟩)⟩
    have no : ∀ c : Nat, c < 1000 → ¬ (c = 76 ∨ c = 82 ∨ c = 84 ∨ c = 66 ∨ c = 85 ∨ c = 80 ∨ c = 73) → nI (tx i) = nI c → P180 := fun c hc' q e => bad (by rw [sw c hc' e]; exact q)
    have ye : ∀ c : Nat, c < 1000 → (c = 76 ∨ c = 82 ∨ c = 84 ∨ c = 66 ∨ c = 85) → nI (tx i) = nI c → P108 := fun c hc' q e => one (by rw [sw c hc' e]; exact q)
    refine ⟨fun q => bad ?_, ye 66 (by omega) (by omega), no 67 (by omega) (by omega), no 68 (by omega) (by omega), no 69 (by omega) (by omega), no 70 (by omega) (by omega), no 71 (by omega) (by omega), no 72 (by omega) (by omega), fun q => ?_, no 74 (by omega) (by omega), no 75 (by omega) (by omega), ye 76 (by omega) (by omega), no 77 (by omega) (by omega), no 78 (by omega) (by omega), no 79 (by omega) (by omega), fun q => ?_, no 81 (by omega) (by omega), ye 82 (by omega) (by omega), no 83 (by omega) (by omega), ye 84 (by omega) (by omega), ye 85 (by omega) (by omega)⟩
    · rw [nI_toInt (by omega)] at q
      omega
    · have hI : tx i = 73 := sw 73 (by omega) q
      have nl : ¬ (tx i = 76 ∨ tx i = 82 ∨ tx i = 84 ∨ tx i = 66 ∨ tx i = 85) := by omega
      have pi : tx i = 80 ∨ tx i = 73 := by omega
      have n8 : ¬ tx i = 80 := by omega
      rw [pu_i1, hI]
      refine pu_readField hT (i + 1) (i + 2) (i + 3) rfl rfl (by omega) (fun d1 => ?_) (fun d1 d2 => ?_) (fun d1 d2 => ?_)
      · intro P178 h178
        exact ⟨fun _ => h178 _ _ ⟨Or.inl rfl, fail (i + 1) (by unfold rd; rw [if_pos z, if_neg nl, if_pos pi, if_neg d1]) _ _ _ _⟩, fun y => absurd rfl y⟩
      · intro P178 h178
        exact ⟨fun _ => h178 _ _ ⟨Or.inl rfl, fail (i + 2) (by unfold rd; rw [if_pos z, if_neg nl, if_pos pi, if_pos d1, if_neg d2]) _ _ _ _⟩, fun y => absurd rfl y⟩
      · intro P178 h178
        refine ⟨fun y => absurd y (by decide), fun _ => ?_⟩
        refine pu_dig hT (i + 3) 1 5 (by omega) (by omega) (by omega) (fun d3 => ?_) (fun d3 => ?_)
        · exact ⟨fun _ => ⟨Or.inl rfl, fun _ => h178 _ _ ⟨Or.inl rfl, fail (i + 3) (by unfold rd; rw [if_pos z, if_neg nl, if_pos pi, if_pos d1, if_pos d2, if_neg n8, if_neg d3]) _ _ _ _⟩, fun y => absurd rfl y⟩, fun y => absurd rfl y⟩
        · have b3 := hT.2.2.2 (i + 3) d3.1
          exact ⟨fun y => absurd y (ne_m1 (by omega)), fun _ => ⟨Or.inr rfl, fun y => absurd y (by decide), fun _ => ⟨Or.inr rfl, good (i + 4) 73 _ _ _ (by unfold rd; rw [if_pos z, if_neg nl, if_pos pi, if_pos d1, if_pos d2, if_neg n8, if_pos d3]) (Or.inr rfl)⟩⟩⟩
    · have hI : tx i = 80 := sw 80 (by omega) q
      have nl : ¬ (tx i = 76 ∨ tx i = 82 ∨ tx i = 84 ∨ tx i = 66 ∨ tx i = 85) := by omega
      have pi : tx i = 80 ∨ tx i = 73 := by omega
      rw [pu_i1, hI]
      refine pu_readField hT (i + 1) (i + 2) (i + 3) rfl rfl (by omega) (fun d1 => ?_) (fun d1 d2 => ?_) (fun d1 d2 => ?_)
      · intro P148 h148
        exact ⟨fun _ => h148 _ _ ⟨Or.inl rfl, fail (i + 1) (by unfold rd; rw [if_pos z, if_neg nl, if_pos pi, if_neg d1]) _ _ _ _⟩, fun y => absurd rfl y⟩
      · intro P148 h148
        exact ⟨fun _ => h148 _ _ ⟨Or.inl rfl, fail (i + 2) (by unfold rd; rw [if_pos z, if_neg nl, if_pos pi, if_pos d1, if_neg d2]) _ _ _ _⟩, fun y => absurd rfl y⟩
      · intro P148 h148
        refine ⟨fun y => absurd y (by decide), fun _ => ?_⟩
        refine pu_readDepth hT (i + 3) (i + 4) (i + 5) (i + 6) rfl rfl rfl (by omega) (fun d3 => ?_) (fun d3 d4 => ?_) (fun d3 d4 d5 => ?_) (fun d3 d4 d5 => ?_)
        · exact ⟨fun y => absurd y (by decide), fun _ => ⟨Or.inr rfl, good (i + 3) 80 _ _ 0 (by unfold rd; rw [if_pos z, if_neg nl, if_pos pi, if_pos d1, if_pos d2, if_pos hI, if_neg d3]) (Or.inl rfl)⟩⟩
        · exact ⟨fun _ => h148 _ _ ⟨Or.inl rfl, fail (i + 4) (by unfold rd; rw [if_pos z, if_neg nl, if_pos pi, if_pos d1, if_pos d2, if_pos hI, if_pos d3, if_neg d4]) _ _ _ _⟩, fun y => absurd rfl y⟩
        · exact ⟨fun y => absurd y (by decide), fun _ => ⟨Or.inr rfl, good (i + 5) 80 _ _ _ (by unfold rd; rw [if_pos z, if_neg nl, if_pos pi, if_pos d1, if_pos d2, if_pos hI, if_pos d3, if_pos d4, if_neg d5]) (Or.inl rfl)⟩⟩
        · exact ⟨fun y => absurd y (by decide), fun _ => ⟨Or.inr rfl, good (i + 6) 80 _ _ _ (by unfold rd; rw [if_pos z, if_neg nl, if_pos pi, if_pos d1, if_pos d2, if_pos hI, if_pos d3, if_pos d4, if_pos d5]) (Or.inl rfl)⟩⟩
def rwB (typed toldMany r_1 spot__4 wrong__5 : Int32) (buf told : Nat → Int32) (post : Int32 → Int32 → Int32 → (Nat → Int32) → Prop) : Prop :=
  ∀ w2_6 : Int32, w2_6 = ((4 : Int32) * toldMany) → vp_in w2_6 240 ∧ (vp_in (w2_6 + (3 : Int32)) 240 ∧ (∀ (P106 : Int32 → Int32 → (Nat → Int32) → Prop), (∀ (spot__7 : Int32) (wrong__8 : Int32) (told__9 : Nat → Int32), (∀ (P126 : Int32 → Int32 → (Nat → Int32) → Prop), (∀ (spot__10 : Int32) (wrong__11 : Int32) (told__12 : Nat → Int32), (∀ (P172 : Int32 → Int32 → (Nat → Int32) → Prop), (∀ (spot__13 : Int32) (wrong__14 : Int32) (told__15 : Nat → Int32), (post (toldMany + (1 : Int32)) spot__13 wrong__14 told__15) → P172 spot__13 wrong__14 told__15) → ((¬ r_1 = (80 : Int32)) → P172 spot__10 wrong__11 told__12) ∧ ((r_1 = (80 : Int32)) → ((¬ wrong__11 = (-6 : Int32)) → P172 spot__10 wrong__11 told__12) ∧ ((wrong__11 = (-6 : Int32)) → wp_X6_letter typed spot__10 buf (fun r_16 => ((¬ r_16 = (58 : Int32)) → P172 spot__10 wrong__11 told__12) ∧ ((r_16 = (58 : Int32)) → wp_X6_depth typed (spot__10 + (1 : Int32)) wrong__11 buf (fun r_17 spot__18 wrong__19 => vp_in (w2_6 + (3 : Int32)) 240 ∧ (P172 spot__18 wrong__19 (upd told__12 ((w2_6 + (3 : Int32))).toNatClampNeg r_17)))))))) → P126 spot__10 wrong__11 told__12) → ((¬ r_1 = (73 : Int32)) → P126 spot__7 wrong__8 told__9) ∧ ((r_1 = (73 : Int32)) → wp_X6_figure typed spot__7 wrong__8 buf (1 : Int32) (5 : Int32) (fun r_20 spot__21 wrong__22 => vp_in (w2_6 + (3 : Int32)) 240 ∧ (P126 spot__21 wrong__22 (upd told__9 ((w2_6 + (3 : Int32))).toNatClampNeg r_20))))) → P106 spot__7 wrong__8 told__9) → ∀ (P76 : Prop), ((wp_X6_figure typed spot__4 wrong__5 buf (0 : Int32) (7 : Int32) (fun r_23 spot__24 wrong__25 => vp_in (w2_6 + (1 : Int32)) 240 ∧ (wp_X6_figure typed spot__24 wrong__25 buf (0 : Int32) (7 : Int32) (fun r_26 spot__27 wrong__28 => vp_in (w2_6 + (2 : Int32)) 240 ∧ (P106 spot__27 wrong__28 (upd (upd (upd (upd told (w2_6).toNatClampNeg r_1) ((w2_6 + (3 : Int32))).toNatClampNeg (0 : Int32)) ((w2_6 + (1 : Int32))).toNatClampNeg r_23) ((w2_6 + (2 : Int32))).toNatClampNeg r_26)))))) → P76 ) → ((r_1 = (80 : Int32)) → P76) ∧ ((¬ r_1 = (80 : Int32)) → ((¬ r_1 = (73 : Int32)) → P106 spot__4 wrong__5 (upd (upd told (w2_6).toNatClampNeg r_1) ((w2_6 + (3 : Int32))).toNatClampNeg (0 : Int32))) ∧ ((r_1 = (73 : Int32)) → P76))))
def tT (told : Nat → Int32) (t : Nat) (w : Wk) : Prop := told (4 * t) = nI w.2.2.1 ∧ (w.2.2.1 = 80 ∨ w.2.2.1 = 73 → told (4 * t + 1) = nI w.2.2.2.1 ∧ told (4 * t + 2) = nI w.2.2.2.2.1 ∧ told (4 * t + 3) = nI w.2.2.2.2.2)
theorem pm_letter {typed : Int32} {buf : Nat → Int32} {post : Int32 → Prop} {tl : Nat} {tx : Nat → Nat} (hT : tC tl tx typed buf) (i : Nat) (hi : i < 1000)
    (h0 : tl ≤ i → post (-6)) (h1 : i < tl → post (nI (tx i))) : wp_X6_letter typed (nI i) buf post := by
  obtain ⟨h60, hl, hc, hb⟩ := hT
  subst hl
  by_cases z : tl ≤ i
  · exact br_t (nI_le z (by omega)) (h0 z)
  · refine br_f (nI_ge (by omega) (by omega)) ⟨vp_in_nI (by omega) (by omega), ?_⟩
    rw [nI_clamp (by omega), hc i (by omega)]
    exact h1 (by omega)
theorem pm_wants {spot : Int32} {post : Int32 → Int32 → Prop} (b : Bool) (h : post (spot + 1) (if b = true then -6 else spot)) : wp_X6_wants spot (-6) (bI b) post := by
  refine ⟨fun q => absurd rfl q, fun _ P23 h23 => ?_⟩
  cases b
  · exact ⟨fun _ => h23 _ h, fun z => absurd rfl z⟩
  · exact ⟨fun z => absurd z (by decide), fun _ => h23 _ h⟩
theorem in_dig {t lo hi : Nat} (ht : t < 2 ^ 30) (hlo : lo < 2 ^ 30) (hhi : hi < 2 ^ 30) : decide (nI lo ≤ nI t - (48 : Int32) ∧ nI t - (48 : Int32) ≤ nI hi) = decide (48 + lo ≤ t ∧ t ≤ 48 + hi) := by
  refine decide_eq_decide.mpr ?_
  have e : (nI t - (48 : Int32)).toInt = (t : Int) - (48 : Nat) := pk_sub_toInt (b := 48) (by omega) (by omega)
  rw [Int32.le_iff_toInt_le, Int32.le_iff_toInt_le, e, nI_toInt (by omega), nI_toInt (by omega)]
  omega
theorem in_dig6 {lo hi : Nat} (hlo : lo < 2 ^ 30) : decide (nI lo ≤ (-6 : Int32) - (48 : Int32) ∧ (-6 : Int32) - (48 : Int32) ≤ nI hi) = false := by
  refine decide_eq_false (fun q => ?_)
  have a := Int32.le_iff_toInt_le.mp q.1
  have e : ((-6 : Int32) - (48 : Int32)).toInt = -54 := by decide
  rw [nI_toInt (by omega), e] at a
  omega
theorem pm_figure {typed : Int32} {buf : Nat → Int32} {post : Int32 → Int32 → Int32 → Prop} {tl : Nat} {tx : Nat → Nat} (hT : tC tl tx typed buf) (i lo hi : Nat) (hi_ : i < 1000) (hlo : lo < 1000) (hhi : hi < 1000)
    (h1 : tD tl tx i lo hi → post (nI (tx i - 48)) (nI (i + 1)) (-6)) (h0 : ¬ tD tl tx i lo hi → ∀ v, post v (nI (i + 1)) (nI i)) : wp_X6_figure typed (nI i) (-6) buf (nI lo) (nI hi) post := by
  refine pm_letter hT i hi_ (fun z => ?_) (fun z => ?_)
  · intro w hw
    subst hw
    refine pm_in (pm_wants _ ?_)
    rw [in_dig6 (by omega), pu_i1]
    exact h0 (fun q => by omega) _
  · have b := hT.2.2.2 i z
    intro w hw
    subst hw
    refine pm_in (pm_wants _ ?_)
    rw [in_dig (by omega) (by omega) (by omega), pu_i1]
    by_cases y : 48 + lo ≤ tx i ∧ tx i ≤ 48 + hi
    · rw [decide_eq_true y, if_pos rfl, show nI (tx i) - (48 : Int32) = nI (tx i - 48) from pk_sub (b := 48) (by omega)]
      exact h1 ⟨z, y⟩
    · rw [decide_eq_false y, if_neg (by decide)]
      exact h0 (fun q => y q.2) _
theorem pm_figureW {typed wrong x1 x2 : Int32} {buf : Nat → Int32} {post : Int32 → Int32 → Int32 → Prop} {tl : Nat} {tx : Nat → Nat} (hT : tC tl tx typed buf) (i : Nat) (hi_ : i < 1000) (hw : ¬ wrong = (-6 : Int32)) (h : ∀ v, post v (nI i) wrong) : wp_X6_figure typed (nI i) wrong buf x1 x2 post :=
  pm_letter hT i hi_ (fun _ _ _ => pm_in ⟨fun _ => h _, fun q => absurd q hw⟩) (fun _ _ _ => pm_in ⟨fun _ => h _, fun q => absurd q hw⟩)
theorem pm_depth {typed : Int32} {buf : Nat → Int32} {post : Int32 → Int32 → Int32 → Prop} {tl : Nat} {tx : Nat → Nat} (hT : tC tl tx typed buf) (j1 j2 j3 : Nat) (e2 : j2 = j1 + 1) (e3 : j3 = j2 + 1) (hj : j1 < 900)
    (h0 : ¬ tD tl tx j1 1 9 → ∀ v, post v (nI j2) (nI j1))
    (h2 : tD tl tx j1 1 9 → ¬ (tD tl tx j2 0 9 ∧ 10 * (tx j1 - 48) + (tx j2 - 48) ≤ 64) → post (nI (tx j1 - 48)) (nI j2) (-6))
    (h3 : tD tl tx j1 1 9 → (tD tl tx j2 0 9 ∧ 10 * (tx j1 - 48) + (tx j2 - 48) ≤ 64) → post (nI (10 * (tx j1 - 48) + (tx j2 - 48))) (nI j3) (-6)) : wp_X6_depth typed (nI j1) (-6) buf post := by
  refine pm_figure hT j1 1 9 (by omega) (by omega) (by omega) (fun d => ?_) (fun d v => ?_)
  · have b1 := hT.2.2.2 j1 d.1
    have d2 := d.2
    rw [← e2]
    refine pm_letter hT j2 (by omega) (fun z => ?_) (fun z => ?_)
    · intro w hw P63 h63
      subst hw
      have g : P63 := h63 (h2 d (fun q => by have := q.1.1; omega))
      refine ⟨fun q => absurd rfl q, fun _ => ?_⟩
      refine pm_in ?_
      rw [show decide ((0 : Int32) ≤ (-6 : Int32) - (48 : Int32) ∧ (-6 : Int32) - (48 : Int32) ≤ (9 : Int32)) = false from in_dig6 (lo := 0) (hi := 9) (by omega)]
      exact ⟨fun _ => g, fun q => absurd rfl q⟩
    · have b2 := hT.2.2.2 j2 z
      intro w hw P63 h63
      subst hw
      refine ⟨fun q => absurd rfl q, fun _ => ?_⟩
      refine pm_in ?_
      rw [show decide ((0 : Int32) ≤ nI (tx j2) - (48 : Int32) ∧ nI (tx j2) - (48 : Int32) ≤ (9 : Int32)) = decide (48 + 0 ≤ tx j2 ∧ tx j2 ≤ 48 + 9) from in_dig (lo := 0) (hi := 9) (by omega) (by omega) (by omega)]
      by_cases y : 48 + 0 ≤ tx j2 ∧ tx j2 ≤ 48 + 9
      · rw [decide_eq_true y]
        refine ⟨fun q => absurd q (by decide), fun _ => ?_⟩
        rw [show nI (tx j2) - (48 : Int32) = nI (tx j2 - 48) from pk_sub (b := 48) (by omega), show (10 : Int32) * nI (tx j1 - 48) = nI (10 * (tx j1 - 48)) from pk_mul 10 _, nI_add, pu_i1, ← e3]
        by_cases y2 : 10 * (tx j1 - 48) + (tx j2 - 48) ≤ 64
        · exact br_f (nI_nlt' (a := 64) y2 (by omega)) (h3 d ⟨⟨z, y⟩, y2⟩)
        · exact br_t (nI_lt' (a := 64) (by omega) (by omega)) (h63 (h2 d (fun q => y2 q.2)))
      · rw [decide_eq_false y]
        exact ⟨fun _ => h63 (h2 d (fun q => y q.1.2)), fun q => absurd rfl q⟩
  · rw [← e2]
    have g := h0 d
    have n6 : ¬ nI j1 = (-6 : Int32) := pm_ne6 (by omega)
    exact pm_letter hT j2 (by omega) (fun _ _ _ _ h63 => ⟨fun _ => h63 (g _), fun q => absurd q n6⟩) (fun _ _ _ _ h63 => ⟨fun _ => h63 (g _), fun q => absurd q n6⟩)
theorem pm_foldBy {x : Int32} {post : Int32 → Prop} (hL : x = 76 → post 0) (hR : x = 82 → post 1) (hT : x = 84 → post 2) (hB : x = 66 → post 3) (hN : x ≠ 76 → x ≠ 82 → x ≠ 84 → x ≠ 66 → post (-6)) : wp_X6_foldBy x post :=
  ⟨fun a => ⟨fun b => ⟨fun c => ⟨fun d => hN a b c d, hB⟩, hT⟩, hR⟩, hL⟩
/-- neither P nor I: only the letter is told -/
theorem rwB_plain {typed r1 spot wrong : Int32} {buf told : Nat → Int32} {post : Int32 → Int32 → Int32 → (Nat → Int32) → Prop} (t : Nat) (ht : t < 60) (n80 : ¬ r1 = 80) (n73 : ¬ r1 = 73)
    (h : ∀ told', told' (4 * t) = r1 → (∀ j, j < 4 * t → told' j = told j) → post (nI (t + 1)) spot wrong told') : rwB typed (nI t) r1 spot wrong buf told post := by
  intro w hw
  rw [show (4 : Int32) * nI t = nI (4 * t) from pk_mul 4 t] at hw
  subst hw
  rw [show nI (4 * t) + (3 : Int32) = nI (4 * t + 3) from nI_add (4 * t) 3, nI_clamp (n := 4 * t) (by omega), nI_clamp (n := 4 * t + 3) (by omega), pu_i1]
  refine ⟨vp_in_nI (by omega) (by omega), vp_in_nI (by omega) (by omega), fun P106 h106 P76 h76 => ⟨fun q => absurd q n80, fun _ => ⟨fun _ => h106 _ _ _ ?_, fun q => absurd q n73⟩⟩⟩
  intro P126 h126
  refine ⟨fun _ => h126 _ _ _ ?_, fun q => absurd q n73⟩
  intro P172 h172
  refine ⟨fun _ => h172 _ _ _ (h _ ?_ (fun j hj => ?_)), fun q => absurd q n80⟩
  · rw [pu_upd, if_neg (by omega), pu_upd, if_pos rfl]
  · rw [pu_upd, if_neg (by omega), pu_upd, if_neg (by omega)]
theorem told5 (told : Nat → Int32) (t : Nat) (a c r n : Int32) (F : Nat → Int32) (hF : F = upd (upd (upd (upd (upd told (4 * t) a) (4 * t + 3) 0) (4 * t + 1) c) (4 * t + 2) r) (4 * t + 3) n) : F (4 * t) = a ∧ F (4 * t + 1) = c ∧ F (4 * t + 2) = r ∧ F (4 * t + 3) = n ∧ ∀ j, j < 4 * t → F j = told j := by
  subst hF
  refine ⟨?_, ?_, ?_, ?_, fun j hj => ?_⟩
  · rw [pu_upd, if_neg (by omega), pu_upd, if_neg (by omega), pu_upd, if_neg (by omega), pu_upd, if_neg (by omega), pu_upd, if_pos rfl]
  · rw [pu_upd, if_neg (by omega), pu_upd, if_neg (by omega), pu_upd, if_pos rfl]
  · rw [pu_upd, if_neg (by omega), pu_upd, if_pos rfl]
  · rw [pu_upd, if_pos rfl]
  · rw [pu_upd, if_neg (by omega), pu_upd, if_neg (by omega), pu_upd, if_neg (by omega), pu_upd, if_neg (by omega), pu_upd, if_neg (by omega)]
theorem told4 (told : Nat → Int32) (t : Nat) (a c r : Int32) (F : Nat → Int32) (hF : F = upd (upd (upd (upd told (4 * t) a) (4 * t + 3) 0) (4 * t + 1) c) (4 * t + 2) r) : F (4 * t) = a ∧ F (4 * t + 1) = c ∧ F (4 * t + 2) = r ∧ F (4 * t + 3) = 0 ∧ ∀ j, j < 4 * t → F j = told j := by
  subst hF
  refine ⟨?_, ?_, ?_, ?_, fun j hj => ?_⟩
  · rw [pu_upd, if_neg (by omega), pu_upd, if_neg (by omega), pu_upd, if_neg (by omega), pu_upd, if_pos rfl]
  · rw [pu_upd, if_neg (by omega), pu_upd, if_pos rfl]
  · rw [pu_upd, if_pos rfl]
  · rw [pu_upd, if_neg (by omega), pu_upd, if_neg (by omega), pu_upd, if_pos rfl]
  · rw [pu_upd, if_neg (by omega), pu_upd, if_neg (by omega), pu_upd, if_neg (by omega), pu_upd, if_neg (by omega)]
theorem pm_readWork {typed : Int32} {buf told : Nat → Int32} {post : Int32 → Int32 → Int32 → (Nat → Int32) → Prop} {tl : Nat} {tx : Nat → Nat} (hT : tC tl tx typed buf) (i t : Nat) (hi : i < 100) (ht : t < 60)
    (h1 : ∀ told', (rd tl tx i).1 = 1 → tT told' t (rd tl tx i) → (∀ j, j < 4 * t → told' j = told j) → post (nI (t + 1)) (nI (rd tl tx i).2.1) (-6) told')
    (h0 : (rd tl tx i).1 = 0 → ∀ spot' told', post (nI (t + 1)) spot' (nI (rd tl tx i).2.1) told') : wp_X6_readWork typed (nI t) (nI i) (-6) buf told post := by
  have fail : ∀ e, rd tl tx i = (0, e, 0, 0, 0, 0) → ∀ spot' told', post (nI (t + 1)) spot' (nI e) told' := fun e he s' t' => by
    rw [he] at h0
    exact h0 rfl s' t'
  have good : ∀ e L c r n, rd tl tx i = (1, e, L, c, r, n) → ∀ told', told' (4 * t) = nI L ∧ told' (4 * t + 1) = nI c ∧ told' (4 * t + 2) = nI r ∧ told' (4 * t + 3) = nI n ∧ (∀ j, j < 4 * t → told' j = told j) → post (nI (t + 1)) (nI e) (-6) told' := fun e L c r n he t' q => by
    rw [he] at h1
    exact h1 t' rfl ⟨q.1, fun _ => ⟨q.2.1, q.2.2.1, q.2.2.2.1⟩⟩ q.2.2.2.2
  refine pm_letter hT i (by omega) (fun z => ?_) (fun z => ?_)
  · refine pm_foldBy (fun q => absurd q (by decide)) (fun q => absurd q (by decide)) (fun q => absurd q (by decide)) (fun q => absurd q (by decide)) (fun _ _ _ _ => ?_)
    intro P38 h38 P33 h33
    refine ⟨fun q => absurd rfl q, fun _ => ⟨fun q => absurd q (by decide), fun _ => ⟨fun q => absurd q (by decide), fun _ => ⟨fun _ => h38 _ ?_, fun q => absurd q (by decide)⟩⟩⟩⟩
    refine pm_wants false ?_
    exact rwB_plain t ht (by decide) (by decide) (fun told' _ _ => fail i (by unfold rd; rw [if_neg (by omega)]) _ _)
  · have b := hT.2.2.2 i z
    have sw : ∀ c : Nat, c < 1000 → nI (tx i) = nI c → tx i = c := fun c hc' e => (nI_eq (by omega) (by omega)).mp e
    have sn : ∀ c : Nat, c < 1000 → tx i ≠ c → ¬ nI (tx i) = nI c := fun c hc' q e => q (sw c hc' e)
    have base : ∀ (bb : Bool), (bb = false → ¬ (tx i = 76 ∨ tx i = 82 ∨ tx i = 84 ∨ tx i = 66 ∨ tx i = 85 ∨ tx i = 80 ∨ tx i = 73)) → (bb = true → (tx i = 76 ∨ tx i = 82 ∨ tx i = 84 ∨ tx i = 66 ∨ tx i = 85 ∨ tx i = 80 ∨ tx i = 73)) → wp_X6_wants (nI i) (-6) (bI bb) (fun spot__4 wrong__5 => rwB typed (nI t) (nI (tx i)) spot__4 wrong__5 buf told post) := fun bb f0 f1 => by
      refine pm_wants bb ?_
      rw [pu_i1]
      cases bb
      · have f := f0 rfl
        rw [if_neg (by decide)]
        exact rwB_plain t ht (sn 80 (by omega) (by omega)) (sn 73 (by omega) (by omega)) (fun told' _ _ => fail i (by unfold rd; rw [if_pos z, if_neg (by omega), if_neg (by omega)]) _ _)
      · have f := f1 rfl
        rw [if_pos rfl]
        by_cases pi : tx i = 80 ∨ tx i = 73
        · have nl : ¬ (tx i = 76 ∨ tx i = 82 ∨ tx i = 84 ∨ tx i = 66 ∨ tx i = 85) := by omega
          intro w hw
          rw [show (4 : Int32) * nI t = nI (4 * t) from pk_mul 4 t] at hw
          subst hw
          rw [show nI (4 * t) + (3 : Int32) = nI (4 * t + 3) from nI_add (4 * t) 3, show nI (4 * t) + (1 : Int32) = nI (4 * t + 1) from nI_add (4 * t) 1, show nI (4 * t) + (2 : Int32) = nI (4 * t + 2) from nI_add (4 * t) 2, nI_clamp (n := 4 * t) (by omega), nI_clamp (n := 4 * t + 3) (by omega), nI_clamp (n := 4 * t + 1) (by omega), nI_clamp (n := 4 * t + 2) (by omega), pu_i1 t]
          refine ⟨vp_in_nI (by omega) (by omega), vp_in_nI (by omega) (by omega), fun P106 h106 P76 h76 => ?_⟩
          -- an error told already
          have W : ∀ (s e : Nat) (td : Nat → Int32), s < 900 → e < 900 → (∀ spot' told', post (nI (t + 1)) spot' (nI e) told') → P106 (nI s) (nI e) td := fun s e td hs he q => by
            have n6 : ¬ nI e = (-6 : Int32) := pm_ne6 (by omega)
            refine h106 _ _ _ ?_
            intro P126 h126
            have g : ∀ (s' : Int32) (td' : Nat → Int32), P126 s' (nI e) td' := fun s' td' => by
              refine h126 _ _ _ ?_
              intro P172 h172
              exact ⟨fun _ => h172 _ _ _ (q _ _), fun _ => ⟨fun _ => h172 _ _ _ (q _ _), fun y => absurd y n6⟩⟩
            exact ⟨fun _ => g _ _, fun _ => pm_figureW hT s (by omega) n6 (fun v => ⟨vp_in_nI (by omega) (by omega), g _ _⟩)⟩
          have go : P76 := by
            refine h76 (pm_figure hT (i + 1) 0 7 (by omega) (by omega) (by omega) (fun d1 => ⟨vp_in_nI (by omega) (by omega), ?_⟩) (fun d1 v => ⟨vp_in_nI (by omega) (by omega), ?_⟩))
            rotate_left
            · have er : rd tl tx i = (0, i + 1, 0, 0, 0, 0) := by unfold rd; rw [if_pos z, if_neg nl, if_pos pi, if_neg d1]
              exact pm_figureW hT (i + 2) (by omega) (pm_ne6 (by omega)) (fun v2 => ⟨vp_in_nI (by omega) (by omega), W (i + 2) (i + 1) _ (by omega) (by omega) (fail _ er)⟩)
            · refine pm_figure hT (i + 2) 0 7 (by omega) (by omega) (by omega) (fun d2 => ⟨vp_in_nI (by omega) (by omega), ?_⟩) (fun d2 v => ⟨vp_in_nI (by omega) (by omega), ?_⟩)
              rotate_left
              · have er : rd tl tx i = (0, i + 2, 0, 0, 0, 0) := by unfold rd; rw [if_pos z, if_neg nl, if_pos pi, if_pos d1, if_neg d2]
                exact W (i + 3) (i + 2) _ (by omega) (by omega) (fail _ er)
              · refine h106 _ _ _ ?_
                intro P126 h126
                by_cases hI : tx i = 80
                · refine ⟨fun _ => h126 _ _ _ ?_, fun q => absurd q (sn 73 (by omega) (by omega))⟩
                  intro P172 h172
                  refine ⟨fun q => absurd (by rw [hI]; rfl) q, fun _ => ⟨fun q => absurd rfl q, fun _ => ?_⟩⟩
                  have no3 : ¬ (i + 3 < tl ∧ tx (i + 3) = 58) → P172 (nI (i + 2 + 1)) (-6) (upd (upd (upd (upd told (4 * t) (nI (tx i))) (4 * t + 3) 0) (4 * t + 1) (nI (tx (i + 1) - 48))) (4 * t + 2) (nI (tx (i + 2) - 48))) := fun d3 => by
                    have er : rd tl tx i = (1, i + 3, 80, tx (i + 1) - 48, tx (i + 2) - 48, 0) := by unfold rd; rw [if_pos z, if_neg nl, if_pos pi, if_pos d1, if_pos d2, if_pos hI, if_neg d3]
                    refine h172 _ _ _ (good _ _ _ _ _ er _ ?_)
                    rw [hI]
                    exact told4 told t _ _ _ _ rfl
                  refine pm_letter hT (i + 3) (by omega) (fun y => ⟨fun _ => no3 (fun q => by omega), fun q => absurd q (by decide)⟩) (fun y => ?_)
                  have b3 := hT.2.2.2 (i + 3) y
                  refine ⟨fun q => no3 (fun q2 => q (by rw [q2.2]; rfl)), fun q => ?_⟩
                  have d3 : i + 3 < tl ∧ tx (i + 3) = 58 := ⟨y, (nI_eq (by omega) (by omega)).mp q⟩
                  rw [show nI (i + 2 + 1) + (1 : Int32) = nI (i + 4) from nI_add (i + 3) 1]
                  refine pm_depth hT (i + 4) (i + 5) (i + 6) rfl rfl (by omega) (fun d4 v => ⟨vp_in_nI (by omega) (by omega), ?_⟩) (fun d4 d5 => ⟨vp_in_nI (by omega) (by omega), ?_⟩) (fun d4 d5 => ⟨vp_in_nI (by omega) (by omega), ?_⟩)
                  · have er : rd tl tx i = (0, i + 4, 0, 0, 0, 0) := by unfold rd; rw [if_pos z, if_neg nl, if_pos pi, if_pos d1, if_pos d2, if_pos hI, if_pos d3, if_neg d4]
                    exact h172 _ _ _ (fail _ er _ _)
                  · have er : rd tl tx i = (1, i + 5, 80, tx (i + 1) - 48, tx (i + 2) - 48, tx (i + 4) - 48) := by unfold rd; rw [if_pos z, if_neg nl, if_pos pi, if_pos d1, if_pos d2, if_pos hI, if_pos d3, if_pos d4, if_neg d5]
                    refine h172 _ _ _ (good _ _ _ _ _ er _ ?_)
                    rw [hI]
                    exact told5 told t _ _ _ _ _ rfl
                  · have er : rd tl tx i = (1, i + 6, 80, tx (i + 1) - 48, tx (i + 2) - 48, 10 * (tx (i + 4) - 48) + (tx (i + 5) - 48)) := by unfold rd; rw [if_pos z, if_neg nl, if_pos pi, if_pos d1, if_pos d2, if_pos hI, if_pos d3, if_pos d4, if_pos d5]
                    refine h172 _ _ _ (good _ _ _ _ _ er _ ?_)
                    rw [hI]
                    exact told5 told t _ _ _ _ _ rfl
                · have h73 : tx i = 73 := by omega
                  refine ⟨fun q => absurd (by rw [h73]; rfl) q, fun _ => ?_⟩
                  have p126 : ∀ (s w' : Int32) (td : Nat → Int32), post (nI (t + 1)) s w' td → P126 s w' td := fun s w' td q => by
                    refine h126 _ _ _ ?_
                    intro P172 h172
                    exact ⟨fun _ => h172 _ _ _ q, fun q2 => absurd q2 (sn 80 (by omega) hI)⟩
                  refine pm_figure hT (i + 3) 1 5 (by omega) (by omega) (by omega) (fun d3 => ⟨vp_in_nI (by omega) (by omega), p126 _ _ _ ?_⟩) (fun d3 v => ⟨vp_in_nI (by omega) (by omega), p126 _ _ _ ?_⟩)
                  · have er : rd tl tx i = (1, i + 4, 73, tx (i + 1) - 48, tx (i + 2) - 48, tx (i + 3) - 48) := by unfold rd; rw [if_pos z, if_neg nl, if_pos pi, if_pos d1, if_pos d2, if_neg hI, if_pos d3]
                    refine good _ _ _ _ _ er _ ?_
                    rw [h73]
                    exact told5 told t _ _ _ _ _ rfl
                  · have er : rd tl tx i = (0, i + 3, 0, 0, 0, 0) := by unfold rd; rw [if_pos z, if_neg nl, if_pos pi, if_pos d1, if_pos d2, if_neg hI, if_neg d3]
                    exact fail _ er _ _
          refine ⟨fun _ => go, fun q => ⟨fun q2 => ?_, fun _ => go⟩⟩
          rcases pi with y | y
          · exact absurd (by rw [y]; rfl) q
          · exact absurd (by rw [y]; rfl) q2
        · have one : tx i = 76 ∨ tx i = 82 ∨ tx i = 84 ∨ tx i = 66 ∨ tx i = 85 := by omega
          have er : rd tl tx i = (1, i + 1, tx i, 0, 0, 0) := by unfold rd; rw [if_pos z, if_pos one]
          refine rwB_plain t ht (sn 80 (by omega) (by omega)) (sn 73 (by omega) (by omega)) (fun told' q1 q2 => ?_)
          rw [er] at h1
          exact h1 told' rfl ⟨q1, fun y => absurd (show tx i = 80 ∨ tx i = 73 from y) pi⟩ q2
    have yes : (tx i = 76 ∨ tx i = 82 ∨ tx i = 84 ∨ tx i = 66 ∨ tx i = 85 ∨ tx i = 80 ∨ tx i = 73) → wp_X6_wants (nI i) (-6) 1 (fun spot__4 wrong__5 => rwB typed (nI t) (nI (tx i)) spot__4 wrong__5 buf told post) := fun q => base true (fun y => absurd y (by decide)) (fun _ => q)
    have nox : ¬ (tx i = 76 ∨ tx i = 82 ∨ tx i = 84 ∨ tx i = 66 ∨ tx i = 85 ∨ tx i = 80 ∨ tx i = 73) → wp_X6_wants (nI i) (-6) 0 (fun spot__4 wrong__5 => rwB typed (nI t) (nI (tx i)) spot__4 wrong__5 buf told post) := fun q => base false (fun _ => q) (fun y => absurd y (by decide))
    refine pm_foldBy (fun q => ?_) (fun q => ?_) (fun q => ?_) (fun q => ?_) (fun a1 a2 a3 a4 => ?_)
    · have := sw 76 (by omega) q
      intro P38 h38 P33 h33
      exact ⟨fun _ => h33 (h38 _ (yes (by omega))), fun y => absurd y (by decide)⟩
    · have := sw 82 (by omega) q
      intro P38 h38 P33 h33
      exact ⟨fun _ => h33 (h38 _ (yes (by omega))), fun y => absurd y (by decide)⟩
    · have := sw 84 (by omega) q
      intro P38 h38 P33 h33
      exact ⟨fun _ => h33 (h38 _ (yes (by omega))), fun y => absurd y (by decide)⟩
    · have := sw 66 (by omega) q
      intro P38 h38 P33 h33
      exact ⟨fun _ => h33 (h38 _ (yes (by omega))), fun y => absurd y (by decide)⟩
    · have b1 : tx i ≠ 76 := fun y => a1 (by rw [y]; rfl)
      have b2 : tx i ≠ 82 := fun y => a2 (by rw [y]; rfl)
      have b3 : tx i ≠ 84 := fun y => a3 (by rw [y]; rfl)
      have b4 : tx i ≠ 66 := fun y => a4 (by rw [y]; rfl)
      intro P38 h38 P33 h33
      refine ⟨fun q => absurd rfl q, fun _ => ⟨fun q => ?_, fun q5 => ⟨fun q => ?_, fun q6 => ⟨fun q7 => ?_, fun q => ?_⟩⟩⟩⟩
      · have := sw 85 (by omega) q
        exact h33 (h38 _ (yes (by omega)))
      · have := sw 80 (by omega) q
        exact h33 (h38 _ (yes (by omega)))
      · have b5 : tx i ≠ 85 := fun y => q5 (by rw [y]; rfl)
        have b6 : tx i ≠ 80 := fun y => q6 (by rw [y]; rfl)
        have b7 : tx i ≠ 73 := fun y => q7 (by rw [y]; rfl)
        exact h38 _ (nox (by omega))
      · have := sw 73 (by omega) q
        exact h33 (h38 _ (yes (by omega)))
