/-! the layout of CurveSuiteModel -/
theorem rs_getFe {X : CX} {cc : ByteArray} {nL : Nat} {own : String} {h mc ms pc : Nat} {lv : List (Nat × Value)} {rest : List Value} {L : Nat → Option Sh} {I : Nat → Nat → Int32} {J : Nat → Nat → Int64} {F : Nat → Nat → Int32} {n ce sl : Nat} {j idx ci q : Nat} {fs : List (Option Value)} {x : Int32} (C : OkX X cc nL own h mc ms) (hd : decode cc pc = .ok (.getfield idx, 3)) (G : Fl own idx ci q) (hL : L j = some (sO ci fs)) (hv : fs[q]? = some none) (he : F j q = x) (k : Rn X (pc + 3) lv (.int x :: rest) (inst X.1 L I J F) n ce sl) : Rn X pc lv (.ref (k_b X.1 + j) :: rest) (inst X.1 L I J F) n ce sl :=
  rs_getF C hd G hL hv (by rw [he]; exact k)
def pN (c : Bool) : Nat := if c then 28 else 16
theorem pN_le (c : Bool) : 16 ≤ pN c ∧ pN c ≤ 28 := by cases c <;> decide
def mdSh (k : KX) (mo : Nat) : Sh := sO 10 [none, rf k (mo + 1), rf k (mo + 2), rf k (mo + 3), rf k (mo + 4), none, rf k (mo + 5), none, rf k (mo + 6), none, rf k (mo + 7), rf k (mo + 8), rf k (mo + 9), none, none, rf k (mo + 10), rf k (mo + 11), none, rf k (mo + 12), rf k (mo + 13), rf k (mo + 14), rf k (mo + 15), rf k (mo + 16), rf k (mo + 17), rf k (mo + 18), rf k (mo + 19), rf k (mo + 20), rf k (mo + 21), rf k (mo + 22), rf k (mo + 23), rf k (mo + 24), rf k (mo + 25), rf k (mo + 26), rf k (mo + 27)]
def ModelAt (k : KX) (L : Nat → Option Sh) (mo : Nat) : Prop := L mo = some (mdSh k mo) ∧ L (mo + 1) = some (sI 57) ∧ L (mo + 2) = some (sI 57) ∧ L (mo + 3) = some (sI 114) ∧ L (mo + 4) = some (sI 114) ∧ L (mo + 5) = some (sI 256) ∧ L (mo + 6) = some (sI 64) ∧ L (mo + 7) = some (sI 2048) ∧ L (mo + 8) = some (sJ 64) ∧ L (mo + 9) = some (sI 32) ∧ L (mo + 10) = some (sI 3) ∧ L (mo + 11) = some (sI 768) ∧ L (mo + 12) = some (sI 128) ∧ L (mo + 13) = some (sJ 8) ∧ L (mo + 14) = some (sJ 8) ∧ L (mo + 15) = some (sJ 80) ∧ L (mo + 16) = some (sJ 80) ∧ L (mo + 17) = some (sJ 25) ∧ L (mo + 18) = some (sJ 25) ∧ L (mo + 19) = some (sJ 5) ∧ L (mo + 20) = some (sI 57) ∧ L (mo + 21) = some (sI 57) ∧ L (mo + 22) = some (sI 57) ∧ L (mo + 23) = some (sI 57) ∧ L (mo + 24) = some (sI 57) ∧ L (mo + 25) = some (sI 64) ∧ L (mo + 26) = some (sI 128) ∧ L (mo + 27) = some (sI 57)
def bN (c : Bool) : Nat := if c then 1 else 0
theorem bN_le (c : Bool) : bN c ≤ 1 := by cases c <;> decide
theorem bN_t {c : Bool} (h : nI (bN c) ≠ 0) : c = true := by cases c with
  | true => rfl
  | false => exact absurd (by decide) h
theorem bN_f {c : Bool} (h : nI (bN c) = 0) : c = false := by cases c with
  | false => rfl
  | true => exact absurd h (by decide)
