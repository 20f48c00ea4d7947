/-! CurveSuite$Scalars: its layout -/
def sL (c : Bool) : Nat := if c then 16 else 10
theorem sL_le (c : Bool) : 10 ≤ sL c ∧ sL c ≤ 16 := by cases c <;> decide
def ScAt (k : KX) (L : Nat → Option Sh) (so : Nat) (c : Bool) : Prop := L so = some (sO 5 [some (.int (nI (cB c))), some (.int (nI (sL c))), rf k (so + 4), rf k (so + 5), rf k (so + 1), rf k (so + 2)]) ∧ L (so + 1) = some (sJ 16) ∧ L (so + 2) = some (sJ 16) ∧ L (so + 4) = some (sJ 16) ∧ L (so + 5) = some (sI 57)
