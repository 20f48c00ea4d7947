/-! the layout of CurveSuite: its objects lie behind it, in the order in which they are made -/
def suSh (k : KX) (xo : Nat) : Sh := sO 9 [rf k (xo + 1), rf k (xo + 2), rf k (xo + 4), rf k (xo + 23), rf k (xo + 26), rf k (xo + 6), rf k (xo + 7), rf k (xo + 8), rf k (xo + 9), rf k (xo + 10), rf k (xo + 11)]
/-- a row of references: m places from p on, d apart -/
def arF (k : KX) (p d m : Nat) : Nat → Option Nat := fun i => if i < m then some (k_b k + (p + d * i)) else none
def SuiteAt (k : KX) (L : Nat → Option Sh) (xo : Nat) : Prop := L xo = some (suSh k xo) ∧ L (xo + 1) = some (sA 5 4 (arF k (xo + 15) 2 4)) ∧ RowAt k L (xo + 2) 256 ∧ RowAt k L (xo + 4) 64 ∧ L (xo + 6) = some (sA 3 2 (arF k (xo + 39) 147 2)) ∧ L (xo + 7) = some (sA 2 2 (arF k (xo + 131) 147 2)) ∧ L (xo + 8) = some (sA 6 2 (arF k (xo + 143) 147 2)) ∧ L (xo + 9) = some (sA 4 3 (arF k (xo + 323) 4 3)) ∧ L (xo + 10) = some (sI 3) ∧ PtAt k L (xo + 11) ∧ RowAt k L (xo + 15 + 2 * 0) 57 ∧ RowAt k L (xo + 15 + 2 * 1) 57 ∧ RowAt k L (xo + 15 + 2 * 2) 114 ∧ RowAt k L (xo + 15 + 2 * 3) 114 ∧ (∀ c : Bool, HashAt k L (xo + 23 + 3 * bN c) c) ∧ (∀ c : Bool, CurveAt k L (xo + 39 + 147 * bN c) (xo + 29 + 147 * bN c) c ∧ AgreeAt k L (xo + 131 + 147 * bN c) (xo + 29 + 147 * bN c) c ∧ SignAt k L (xo + 143 + 147 * bN c) (xo + 39 + 147 * bN c) (xo + 29 + 147 * bN c) (xo + 23 + 3 * bN c) c) ∧ ∀ p, p < 3 → PtAt k L (xo + 323 + 4 * p)
theorem mm_w : Cond.methodLink RX11 112 Lib.Math.min.name ∈ gw ∧ Cond.static Lib.Math.min.name ∈ gw ∧ Cond.initialized "java/lang/Math" ∈ gw ∧ Cond.code Lib.Math.min.name Lib.Math.min.code 2 (some .int) ∈ gw := ⟨wt 643 (by decide +kernel) (by decide +kernel), wt 644 (by decide +kernel) (by decide +kernel), wt 25 (by decide +kernel) (by decide +kernel), wt 645 (by decide +kernel) (by decide +kernel)⟩
theorem mm_n {a b : Nat} (ha : a < 2 ^ 31) (hb : b < 2 ^ 31) : (if nI b < nI a then nI b else nI a) = nI (min a b) := by
  by_cases h : b < a
  · rw [if_pos ((nI_ltI hb ha).mpr h), show min a b = b from by omega]
  · rw [if_neg (fun q => h ((nI_ltI hb ha).mp q)), show min a b = a from by omega]
theorem rn_mmin {X : CX} {cc : ByteArray} {nL : Nat} {h mc ms pc : Nat} {lv : List (Nat × Value)} {rest : List Value} {P : PT} {n ce sl : Nat} {x y v : Int32} (C : OkX X cc nL RX11 h mc ms) (hd : decode cc pc = .ok (.invokestatic 112, 3)) (hv : (if y < x then y else x) = v) (hh : 1 ≤ h) (hcat : (rest.map fun v => v.category).sum ≤ 8) (hc : ce ≤ mc) (hs : sl ≤ ms) (k : Rn X (pc + 3) lv (.int v :: rest) P n ce sl) : Rn X pc lv (.int y :: .int x :: rest) P n ce sl := by
  intro H ls locs hH hl ho
  have hts := C.2.2.2.2.2.1
  have hR : x_R X = rmv h mc ms := C.2.2.2.2.2.2.2.2.1
  have hm : ls.size = (x_C X).maxLocals := by rw [hl.1, C.2.2.1, C.2.2.2.1]
  exact va_mmin C.1 C.2.1 hm.symm C.2.2.2.2.1 (hts _ mm_w.1) (hts _ mm_w.2.1) (hts _ mm_w.2.2.1) (hts _ mm_w.2.2.2) (by rw [hR]; exact hh) (by rw [hR]; show _ + 13 ≤ 45 * h; omega) (by rw [hR]; exact hc) (by rw [hR]; exact hs) hd (by rw [hv]; exact k H ls locs hH hl ho)
