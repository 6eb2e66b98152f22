theorem ct_set (p : Nat → Bool) (x : Nat) : ∀ N, x < N → ct (fun y => p y || decide (x = y)) N = ct p N + if p x = true then 0 else 1
  | 0, h => absurd h (by omega)
  | N + 1, h => by
    unfold ct
    by_cases z : x = N
    · subst z
      have : ct (fun y => p y || decide (x = y)) x = ct p x := ct_congr (fun k hk => by rw [decide_eq_false (by omega), Bool.or_false])
      rw [this]
      cases p x <;> simp
    · rw [ct_set p x N (by omega), decide_eq_false z, Bool.or_false]
      omega
theorem ct_mono {p q : Nat → Bool} : ∀ N, (∀ k, k < N → p k = true → q k = true) → ct p N ≤ ct q N
  | 0, _ => Nat.le_refl 0
  | N + 1, h => by
    have ih := ct_mono N (fun k hk => h k (by omega))
    unfold ct
    have h1 := h N (by omega)
    by_cases z : p N = true
    · rw [if_pos z, if_pos (h1 z)]
      omega
    · rw [if_neg z]
      omega
def qHole (p : Pap) (x : Nat) : Pap := (qn p, qf p, fun y => qp p y || decide (x = y), qc p, qg p)
def qPunch (p : Pap) (c r d : Nat) : Pap := (qn p, qf p, fun y => qp p y || fp_in (qf p) (qn p) c r d y, qc p, qg p)
def qNew (p : Pap) (c r d : Nat) : Nat := ct (qp (qPunch p c r d)) 64 - ct (qp p) 64
theorem pm_ne6 {q : Nat} (h : q < 2 ^ 31) : ¬ nI q = (-6 : Int32) := by
  intro e
  have := congrArg Int32.toInt e
  rw [nI_toInt h] at this
  have h6 : (-6 : Int32).toInt = -6 := by decide
  omega
/-- the uppermost layer without a hole: its number in the stack, or the stack's height -/
def qTop (p : Pap) (c r : Nat) : Nat → Nat → Nat
  | 0, i => i
  | f + 1, i => if qp p (qu p c r i / 2) = true then qTop p c r f (i + 1) else i
theorem qTop_le (p : Pap) (c r : Nat) : ∀ f i, i ≤ qTop p c r f i ∧ qTop p c r f i ≤ i + f
  | 0, i => ⟨Nat.le_refl i, Nat.le_refl i⟩
  | f + 1, i => by
    have := qTop_le p c r f (i + 1)
    unfold qTop
    split <;> omega
abbrev qT (p : Pap) (c r : Nat) : Nat := qTop p c r (2 ^ qn p) 0
