/-! numbers and bits -/
def bI (b : Bool) : Int32 := if b then 1 else 0
theorem bI_01 (b : Bool) : bI b = 0 ∨ bI b = 1 := by cases b <;> simp [bI]
theorem bI_0 {b : Bool} : bI b = 0 ↔ b = false := by cases b <;> simp [bI]
theorem bI_n {b : Bool} : ¬ bI b = 0 ↔ b = true := by cases b <;> simp [bI]
theorem pu_sel {b : Bool} {P : Int32 → Prop} {x y : Int32} (h : P (if b = true then y else x)) : (bI b = 0 → P x) ∧ (¬ bI b = 0 → P y) := by
  cases b
  · exact ⟨fun _ => h, fun z => absurd rfl z⟩
  · exact ⟨fun z => absurd z (by decide), fun _ => h⟩
theorem pu_selN {b : Bool} {P : Int32 → Prop} {x y : Int32} (h : P (if b = true then y else x)) : (¬ bI b = 0 → P y) ∧ (bI b = 0 → P x) := ⟨(pu_sel h).2, (pu_sel h).1⟩
theorem pu_br {b : Bool} {A B : Prop} (f : b = false → A) (g : b = true → B) : (bI b = 0 → A) ∧ (¬ bI b = 0 → B) := ⟨fun z => f (bI_0.mp z), fun z => g (bI_n.mp z)⟩
theorem pu_brN {b : Bool} {A B : Prop} (f : b = false → A) (g : b = true → B) : (¬ bI b = 0 → B) ∧ (bI b = 0 → A) := ⟨(pu_br f g).2, (pu_br f g).1⟩
theorem pu_i1 (n : Nat) : nI n + (1 : Int32) = nI (n + 1) := nI_1 n
theorem pu_cl {n : Nat} (h : n < 2 ^ 31) : (nI n).toNatClampNeg = n := nI_clamp h
theorem pu_ite (b : Prop) [Decidable b] (x y : Nat) : (if b then nI x else nI y) = nI (if b then x else y) := by split <;> rfl
theorem pu_bIn (b : Bool) : bI b = nI (if b = true then 1 else 0) := by cases b <;> rfl
/-- an argument is too small, too large, or a number below n -/
theorem pu_rng (x : Int32) (n : Nat) (hn : n < 2 ^ 31) : x < 0 ∨ nI n ≤ x ∨ ∃ j : Nat, j < n ∧ x = nI j := pk_ix x hn
theorem pu_ng {x : Int32} {n : Nat} (hn : n < 2 ^ 31) (h : nI n ≤ x) : ¬ x < 0 := fun z => by
  have h1 := Int32.lt_iff_toInt_lt.mp z
  have h2 := Int32.le_iff_toInt_le.mp h
  rw [nI_toInt hn] at h2
  have h0 : (0 : Int32).toInt = 0 := by decide
  omega
theorem pu_upd_s (f : Nat → Int32) (k : Nat) (x : Int32) : upd f k x k = x := pk_us
theorem pu_upd_n (f : Nat → Int32) {k j : Nat} (x : Int32) (h : j ≠ k) : upd f k x j = f j := pk_un h
theorem pu_upd (f : Nat → Int32) (k : Nat) (x : Int32) (j : Nat) : upd f k x j = if j = k then x else f j := by
  by_cases h : j = k
  · subst h; rw [pu_upd_s, if_pos rfl]
  · rw [pu_upd_n f x h, if_neg h]
/-- the bits of a set of cells -/
def ib (x : Int64) (i : Nat) : Bool := x.toBitVec.getLsbD i
theorem ib_ext {x y : Int64} (h : ∀ i, i < 64 → ib x i = ib y i) : x = y := Int64.toBitVec_inj.mp (BitVec.eq_of_getLsbD_eq (fun i hi => h i hi))
theorem ib_or (x y : Int64) (i : Nat) : ib (x ||| y) i = (ib x i || ib y i) := by unfold ib; rw [Int64.toBitVec_or, BitVec.getLsbD_or]
theorem ib_and (x y : Int64) (i : Nat) : ib (x &&& y) i = (ib x i && ib y i) := by unfold ib; rw [Int64.toBitVec_and, BitVec.getLsbD_and]
theorem ib_xor (x y : Int64) (i : Nat) : ib (x ^^^ y) i = (ib x i ^^ ib y i) := by unfold ib; rw [Int64.toBitVec_xor, BitVec.getLsbD_xor]
theorem ib_big {x : Int64} {i : Nat} (h : 64 ≤ i) : ib x i = false := BitVec.getLsbD_of_ge _ _ h
theorem ib_0 (i : Nat) : ib 0 i = false := by
  show (0#64).getLsbD i = false
  exact BitVec.getLsbD_zero
theorem ib_m1 {i : Nat} (h : i < 64) : ib (-1) i = true := (by decide +kernel : ∀ i, i < 64 → ib (-1) i = true) i h
theorem ib_not (x : Int64) {i : Nat} (h : i < 64) : ib (x ^^^ (-1 : Int64)) i = !ib x i := by rw [ib_xor, ib_m1 h, Bool.xor_true]
theorem ib_c63 : ∀ k, k < 64 → ((((nI k).toInt64 &&& (63 : Int64)).toBitVec).smod 64).toNat = k := by decide +kernel
theorem ib_u63 : ∀ k, k < 64 → ((nI k).toInt64.toUInt64 &&& Int64.toUInt64 63).toNat = k := by decide +kernel
theorem ib_shl {k : Nat} (hk : k < 64) (x : Int64) {i : Nat} (hi : i < 64) : ib (x <<< ((nI k).toInt64 &&& (63 : Int64))) i = (decide (k ≤ i) && ib x (i - k)) := by
  unfold ib
  rw [Int64.toBitVec_shiftLeft]
  show (x.toBitVec <<< (((nI k).toInt64 &&& (63 : Int64)).toBitVec.smod 64).toNat).getLsbD i = _
  rw [ib_c63 k hk, BitVec.getLsbD_shiftLeft]
  rcases Nat.lt_or_ge i k with h | h
  · simp [h, Nat.not_le.mpr h]
  · simp [hi, h, Nat.not_lt.mpr h]
theorem ib_shr {k : Nat} (hk : k < 64) (x : Int64) (i : Nat) : ib ((x.toUInt64 >>> ((nI k).toInt64.toUInt64 &&& Int64.toUInt64 63)).toInt64) i = ib x (k + i) := by
  have e : (x.toUInt64 >>> ((nI k).toInt64.toUInt64 &&& Int64.toUInt64 63)).toInt64.toBitVec = x.toBitVec >>> k := by
    apply BitVec.eq_of_toNat_eq
    show (x.toUInt64 >>> ((nI k).toInt64.toUInt64 &&& Int64.toUInt64 63)).toNat = _
    rw [UInt64.toNat_shiftRight, ib_u63 k hk, Nat.mod_eq_of_lt hk, BitVec.toNat_ushiftRight]
    rfl
  unfold ib
  rw [e, BitVec.getLsbD_ushiftRight]
theorem ib_one (i : Nat) : ib 1 i = decide (i = 0) := by
  show (1#64).getLsbD i = _
  rw [BitVec.getLsbD_one]
  simp
theorem ib_bit {k : Nat} (hk : k < 64) {i : Nat} (hi : i < 64) : ib ((1 : Int64) <<< ((nI k).toInt64 &&& (63 : Int64))) i = decide (i = k) := by
  rw [ib_shl hk _ hi, ib_one]
  by_cases h : i = k
  · subst h; simp
  · by_cases h2 : k ≤ i
    · have : ¬ i - k = 0 := by omega
      simp [h, this]
    · simp [h, h2]
theorem ib_eq0 {x : Int64} : x = 0 ↔ ∀ i, i < 64 → ib x i = false := ⟨fun h i _ => by rw [h]; exact ib_0 i, fun h => ib_ext (fun i hi => by rw [h i hi, ib_0])⟩
theorem ib_eq {x y : Int64} : x = y ↔ ∀ i, i < 64 → ib x i = ib y i := ⟨fun h i _ => by rw [h], ib_ext⟩
/-- hasCell: one bit -/
theorem pu_hasCell {x : Int64} {post : Int32 → Prop} (k : Nat) (hk : k < 64) (h : post (bI (ib x k))) : wp_X5_hasCell x (nI k) post := by
  have e : ((((x).toUInt64 >>> ((nI k).toInt64.toUInt64 &&& Int64.toUInt64 63)).toInt64) &&& (1 : Int64)) = (1 : Int64) ↔ ib x k = true := by
    rw [ib_eq]
    constructor
    · intro z
      have z0 := z 0 (by omega)
      rw [ib_and, ib_shr hk, ib_one] at z0
      simpa using z0
    · intro z i hi
      rw [ib_and, ib_shr hk, ib_one]
      by_cases h0 : i = 0
      · subst h0; simp [z]
      · simp [h0]
  unfold wp_X5_hasCell
  rw [lg_cmp_eq, e]
  cases hb : ib x k with
  | false => rw [hb] at h; exact ⟨fun _ => ⟨Or.inl rfl, h⟩, fun z => by simp at z⟩
  | true => rw [hb] at h; exact ⟨fun z => by simp at z, fun _ => ⟨Or.inr rfl, h⟩⟩
theorem pu_cellOf {post : Int32 → Prop} (x : Nat) (hx : x < 2 ^ 31) (h : post (nI (x / 2))) : wp_X5_cellOf (nI x) post := by
  have e : nI x >>> ((1 : Int32) &&& 31) = nI (x / 2) := pk_shrN hx _ 1 (by decide)
  unfold wp_X5_cellOf
  rw [e]
  exact h
theorem pu_isRow {post : Int32 → Prop} (x : Int32) (h0 : (∀ j : Nat, j < 8 → x ≠ nI j) → post 0) (h1 : ∀ j : Nat, j < 8 → x = nI j → post 1) : wp_X5_isRow x post := by
  intro P hP
  rcases pu_rng x 8 (by omega) with z | z | ⟨j, hj, rfl⟩
  · exact br_t z (hP ⟨Or.inl rfl, h0 (fun j hj e => by subst e; exact nI_pos (by omega) z)⟩)
  · refine br_f (pu_ng (by omega) z) ?_
    exact br_t z (hP ⟨Or.inl rfl, h0 (fun j hj e => by subst e; exact nI_ge hj (by omega) z)⟩)
  · refine br_f (nI_pos (by omega)) ?_
    exact br_f (nI_ge (b := 8) hj (by omega)) ⟨Or.inr rfl, h1 j hj rfl⟩
theorem pu_isCell {post : Int32 → Prop} (x : Int32) (h0 : (∀ j : Nat, j < 64 → x ≠ nI j) → post 0) (h1 : ∀ j : Nat, j < 64 → x = nI j → post 1) : wp_X5_isCell x post := by
  intro P hP
  rcases pu_rng x 64 (by omega) with z | z | ⟨j, hj, rfl⟩
  · exact br_t z (hP ⟨Or.inl rfl, h0 (fun j hj e => by subst e; exact nI_pos (by omega) z)⟩)
  · refine br_f (pu_ng (by omega) z) ?_
    exact br_t z (hP ⟨Or.inl rfl, h0 (fun j hj e => by subst e; exact nI_ge hj (by omega) z)⟩)
  · refine br_f (nI_pos (by omega)) ?_
    exact br_f (nI_ge (b := 64) hj (by omega)) ⟨Or.inr rfl, h1 j hj rfl⟩
/-- eight bits of a row -/
theorem pu_maskOfRow {x : Int64} {post : Int32 → Prop} (r : Nat) (hr : r < 8) (h : ∀ m : Nat, m < 256 → (∀ c, c < 8 → m.testBit c = ib x (8 * r + c)) → post (nI m)) : wp_X5_maskOfRow x (nI r) post := by
  unfold wp_X5_maskOfRow
  rw [show (8 : Int32) * nI r = nI (8 * r) from pk_mul 8 r]
  have hk : 8 * r < 64 := by omega
  generalize hy : ((x.toUInt64 >>> ((nI (8 * r)).toInt64.toUInt64 &&& Int64.toUInt64 63)).toInt64) = y
  have hb : ∀ i, ib y i = ib x (8 * r + i) := fun i => by rw [← hy, ib_shr hk]
  have e := pk_and (y.toInt32) (m := 255) 8 (by decide)
  rw [show y.toInt32 &&& (255 : Int32) = nI (y.toInt32.toBitVec.toNat % 2 ^ 8) from e]
  refine h _ (Nat.mod_lt _ (by decide)) (fun c hc => ?_)
  rw [← hb c, Nat.testBit_mod_two_pow]
  unfold ib
  rw [decide_eq_true hc, Bool.true_and]
  show y.toInt32.toBitVec.getLsbD c = _
  rw [Int64.toBitVec_toInt32, BitVec.getLsbD_signExtend]
  have h32 : c < 32 := by omega
  have h64 : c < 64 := by omega
  simp [h32, h64]
