/-! pieces: the maths -/
/-- two cells side by side -/
def adj (i j : Nat) : Prop := (j = i + 1 ∧ i % 8 ≠ 7) ∨ (i = j + 1 ∧ j % 8 ≠ 7) ∨ j = i + 8 ∨ i = j + 8
theorem adj_s {i j : Nat} (h : adj i j) : adj j i := by
  unfold adj at h ⊢
  rcases h with h | h | h | h
  · exact Or.inr (Or.inl h)
  · exact Or.inl h
  · exact Or.inr (Or.inr (Or.inr h))
  · exact Or.inr (Or.inr (Or.inl h))
/-- closed under going to a whole cell beside -/
def clo (f : Nat → Bool) (S : Nat → Prop) : Prop := ∀ a b, a < 64 → b < 64 → S a → f a = true → f b = true → adj a b → S b
def cnx (f : Nat → Bool) (i j : Nat) : Prop := ∀ S : Nat → Prop, clo f S → S i → S j
theorem cnx_r (f : Nat → Bool) (i : Nat) : cnx f i i := fun _ _ h => h
theorem cnx_t {f : Nat → Bool} {i j k : Nat} (h1 : cnx f i j) (h2 : cnx f j k) : cnx f i k := fun S c h => h2 S c (h1 S c h)
theorem cnx_1 {f : Nat → Bool} {a b : Nat} (ha : a < 64) (hb : b < 64) (fa : f a = true) (fb : f b = true) (h : adj a b) : cnx f a b := fun _ c s => c a b ha hb s fa fb h
theorem cnx_s {f : Nat → Bool} {i j : Nat} (h : cnx f i j) : cnx f j i :=
  h (fun x => cnx f x i) (fun a b ha hb s fa fb e => cnx_t (cnx_1 hb ha fb fa (adj_s e)) s) (cnx_r f i)
theorem cnx_in {f : Nat → Bool} {i j : Nat} (hi : i < 64) (fi : f i = true) (h : cnx f i j) : j < 64 ∧ f j = true :=
  h (fun x => x < 64 ∧ f x = true) (fun _ b _ hb _ _ fb _ => ⟨hb, fb⟩) ⟨hi, fi⟩
/-- the lowest cell of each piece -/
def Lb (f : Nat → Bool) (lab : Nat → Nat) : Prop := (∀ x, x < 64 → f x = true → lab x ≤ x ∧ cnx f (lab x) x) ∧ ∀ a b, a < 64 → b < 64 → f a = true → f b = true → adj a b → lab a = lab b
theorem min_ex (P : Nat → Prop) : ∀ n, P n → ∃ m, m ≤ n ∧ P m ∧ ∀ j, j < m → ¬ P j := by
  intro n
  induction n using Nat.strongRecOn with
  | ind n ih =>
    intro h
    by_cases z : ∃ j, j < n ∧ P j
    · obtain ⟨j, hj, e⟩ := z
      obtain ⟨m, a, b, c⟩ := ih j hj e
      exact ⟨m, by omega, b, c⟩
    · exact ⟨n, Nat.le_refl _, h, fun j hj q => z ⟨j, hj, q⟩⟩
theorem lab_ex (f : Nat → Bool) : ∃ lab, Lb f lab := by
  have h : ∀ x, ∃ m, m ≤ x ∧ cnx f m x ∧ ∀ j, j < m → ¬ cnx f j x := fun x => min_ex (fun m => cnx f m x) x (cnx_r f x)
  obtain ⟨lab, hl⟩ := Classical.axiomOfChoice h
  refine ⟨lab, fun x _ _ => ⟨(hl x).1, (hl x).2.1⟩, fun a b ha hb fa fb e => ?_⟩
  have c1 : cnx f (lab a) b := cnx_t (hl a).2.1 (cnx_1 ha hb fa fb e)
  have c2 : cnx f (lab b) a := cnx_t (hl b).2.1 (cnx_1 hb ha fb fa (adj_s e))
  have l1 : ¬ lab a < lab b := fun q => (hl b).2.2 _ q c1
  have l2 : ¬ lab b < lab a := fun q => (hl a).2.2 _ q c2
  omega
theorem Lb_cnx {f : Nat → Bool} {lab : Nat → Nat} (h : Lb f lab) {x y : Nat} (hx : x < 64) (fx : f x = true) (c : cnx f x y) : lab y = lab x :=
  (c (fun z => z < 64 ∧ f z = true ∧ lab z = lab x) (fun a b ha hb s fa fb e => ⟨hb, fb, by rw [← h.2 a b ha hb fa fb e]; exact s.2.2⟩) ⟨hx, fx, rfl⟩).2.2
theorem Lb_lab {f : Nat → Bool} {lab : Nat → Nat} (h : Lb f lab) {x : Nat} (hx : x < 64) (fx : f x = true) : lab x < 64 ∧ f (lab x) = true ∧ lab (lab x) = lab x := by
  obtain ⟨a, b⟩ := h.1 x hx fx
  obtain ⟨c, d⟩ := cnx_in hx fx (cnx_s b)
  exact ⟨c, d, (Lb_cnx h c d b).symm⟩
theorem Lb_iff {f : Nat → Bool} {lab : Nat → Nat} (h : Lb f lab) {x y : Nat} (hx : x < 64) (fx : f x = true) (hy : y < 64) (fy : f y = true) : cnx f x y ↔ lab x = lab y := by
  refine ⟨fun c => (Lb_cnx h hx fx c).symm, fun e => ?_⟩
  have a := (h.1 x hx fx).2
  have b := (h.1 y hy fy).2
  rw [← e] at b
  exact cnx_t (cnx_s a) b
/-- other labels with the same marks are the same -/
theorem Lb_u {f : Nat → Bool} {lab m : Nat → Nat} (h : Lb f lab) (h2 : Lb f m) {x : Nat} (hx : x < 64) (fx : f x = true) : m x = lab x := by
  obtain ⟨a, b, c⟩ := Lb_lab h hx fx
  obtain ⟨a', b', c'⟩ := Lb_lab h2 hx fx
  have e1 : lab (m x) = lab x := (Lb_cnx h a' b' (h2.1 x hx fx).2).symm
  have e2 : m (lab x) = m x := (Lb_cnx h2 a b (h.1 x hx fx).2).symm
  have l1 := (h.1 (m x) a' b').1
  have l2 := (h2.1 (lab x) a b).1
  omega
/-- lowest cell of a piece -/
def isR (f : Nat → Bool) (lab : Nat → Nat) (l : Nat) : Bool := f l && decide (lab l = l)
/-- how many cells a piece has -/
def szP (f : Nat → Bool) (lab : Nat → Nat) (l : Nat) : Nat := ct (fun x => f x && decide (lab x = l)) 64
def mxP (f : Nat → Bool) (lab : Nat → Nat) : Nat → Nat
  | 0 => 0
  | t + 1 => if isR f lab t = true then max (mxP f lab t) (szP f lab t) else mxP f lab t
