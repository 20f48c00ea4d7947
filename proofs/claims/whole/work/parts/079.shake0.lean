/-! CurveSuite$Shake256: its static rows, its layout -/
def rkL : List Int64 := [1, 32898, (-9223372036854742902), (-9223372034707259392), 32907, 2147483649, (-9223372034707259263), (-9223372036854743031), 138, 136, 2147516425, 2147483658, 2147516555, (-9223372036854775669), (-9223372036854742903), (-9223372036854743037), (-9223372036854743038), (-9223372036854775680), 32778, (-9223372034707292150), (-9223372034707259263), (-9223372036854742912), 2147483649, (-9223372034707259384)]
def rkF (j : Nat) : Int64 := rkL.getD j 0
def nlL : List Nat := [10, 7, 11, 17, 18, 3, 5, 16, 8, 21, 24, 4, 15, 23, 19, 13, 12, 2, 20, 14, 22, 9, 6, 1]
def nlN (j : Nat) : Nat := nlL.getD j 0
def tnL : List Nat := [1, 3, 6, 10, 15, 21, 28, 36, 45, 55, 2, 14, 27, 41, 56, 8, 25, 43, 62, 18, 39, 61, 20, 44]
def tnN (j : Nat) : Nat := tnL.getD j 0
theorem nlN_lt : ∀ j, j < 24 → nlN j < 25 := by decide
def ShakeS (k : KX) (U : State) : Prop := StJ k RX9 "ROUND_KEYS" 24 rkF U ∧ StI k RX9 "NEXT_LANE" 24 (fun j => nI (nlN j)) U ∧ StI k RX9 "TURNS" 24 (fun j => nI (tnN j)) U
def ShakeAt (k : KX) (L : Nat → Option Sh) (so : Nat) : Prop := L so = some (sO 7 [rf k (so + 1), rf k (so + 2)]) ∧ L (so + 1) = some (sJ 25) ∧ L (so + 2) = some (sJ 5)
theorem gs_X9_39 : Cond.fieldLink RX9 39 RX9 "ROUND_KEYS" "[J" ∈ gw := wt 720 (by decide +kernel) (by decide +kernel)
theorem gs_X9_55 : Cond.fieldLink RX9 55 RX9 "NEXT_LANE" "[I" ∈ gw := wt 733 (by decide +kernel) (by decide +kernel)
theorem gs_X9_58 : Cond.fieldLink RX9 58 RX9 "TURNS" "[I" ∈ gw := wt 735 (by decide +kernel) (by decide +kernel)
