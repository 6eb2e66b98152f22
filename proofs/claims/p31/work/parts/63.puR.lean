/-- states behind one more is recorded -/
def hPush (k : Nat) (hp : Nat → Pap) (p : Pap) : Nat → Pap := if k < 5 then fun j => if j = k then p else hp j else fun j => if j = 4 then p else hp (j + 1)
def hLen (k : Nat) : Nat := if k < 5 then k + 1 else 5
